section LP
variable {n : Int} {G : hp} {v : Nat → Nat → Int} {N : Nat → Int → Int} {T : Nat → Int → Option Nat} {u : Nat → Int} {M : Nat → Int → Int}
theorem kr_c : kh (rh G u M) v N T = rh (kh G v N T) u M := by
  funext j
  by_cases e : 8 ≤ j ∧ j ≤ 68
  · rw [kh_in e.1 e.2, rh_out (by omega), kh_in e.1 e.2]
  · rw [kh_out (by omega)]
    by_cases f : 69 ≤ j ∧ j ≤ 86
    · rw [rh_in f.1 f.2, rh_in f.1 f.2]
    · rw [rh_out (by omega), rh_out (by omega), kh_out (by omega)]
theorem op_run {cl rf : hp → (Int → hp → Prop) → Prop} (h : OP n cl rf) (hR : Rel n G v N T u M) {C : Int → hp → Prop} {K : Int → Int → hp → Prop} (hC : ∀ (x : Int) (F1 : hp), (∃ fs, F1 69 = some (cO 12 fs)) → rf F1 (fun y F4 => K x y F4) → C x F1) (hK : ∀ r G' v' N' T' u' M', Rel (n + 1) G' v' N' T' u' M' → K r r (kh (rh G' u' M') v' N' T')) : cl (kh (rh G u M) v N T) C := by
  obtain ⟨r, G', v', N', T', u', M', h1, k1, k2⟩ := h G v N T u M hR
  refine k1 C (hC r _ ⟨rfs u, ?_⟩ ?_)
  · rw [kr_c, rh_in (by decide) (by decide)]; rfl
  · rw [kr_c]
    refine k2 _ ?_
    rw [← kr_c]
    exact hK r _ _ _ _ _ _ h1
theorem icr (r : Int) : w32 (iCmp r r) = 0 := by
  unfold iCmp
  rw [if_neg (by omega), if_pos rfl]
  decide
set_option maxHeartbeats 16000000 in
theorem lp_s {L : Nat} {xs : Nat → Int32} (hL : L ≤ 384) (k m : Nat) (hk : m + k = 64) (sb : ∀ i, -2147483648 ≤ sx xs i ∧ sx xs i ≤ 2147483647) (hR : Rel (m : Int) G v N T u M) (nxt : ∀ G' v' N' T' u' M', Rel ((m : Int) + 1) G' v' N' T' u' M' → mL_law_L18 L xs (fun r _ => r = 1) k (some 8) (some 69) (6 * (m : Int) + 6) (kh (rh G' u' M') v' N' T')) : mL_law_L18 L xs (fun r _ => r = 1) (k + 1) (some 8) (some 69) (6 * (m : Int)) (kh (rh G u M) v N T) := by
  have hn : 0 ≤ (m : Int) ∧ (m : Int) ≤ 1000 := by omega
  rw [mL_law_L18, w32_id (x := (L : Int) - 6) (by omega) (by omega), w32_id (x := 6 * (m : Int)) (by omega) (by omega)]
  refine ⟨fun _ => rfl, fun hlt => ⟨by omega, ?_⟩⟩
  refine ⟨
    ?c0,
    ?c1,
    ?c2,
    ?c3,
    ?c4,
    ?c5,
    ?c6,
    ?c7,
    ?c8,
    ?c9,
    ?c10,
    ?c11,
    ?c12,
    ?c13,
    ?c14,
    ?c15,
    ?c16,
    ?c17,
    ?c18,
    ?c19,
    ?c20,
    ?c21,
    ?c22,
    ?c23,
    ?c24,
    ?c25,
    ?c26,
    ?c27,
    ?c28,
    ?c29,
    ?c30,
    ?c31,
    ?c32,
    ?c33,
    ?c34,
    ?c35,
    ?c36,
    ?c37,
    ?c38,
    ?c39,
    ?c40,
    ?c41,
    ?c42,
    ?c43,
    ?c44,
    ?c45,
    ?c46,
    ?c47,
    ?cd⟩
  case c0 =>
    intro _
    refine ⟨by omega, by omega, ?_⟩
    rw [kh_c8]
    refine op_run (K := ?gK1) (op_car (sb _) (sb _)) hR ?gc ?gk
    case gc =>
      intro x F1 hx z
      obtain ⟨fs, h69⟩ := hx
      refine ⟨by omega, by omega, ?_⟩
      rw [rcv_s h69]
      exact z
    case gk => intro r G2 v2 N2 T2 u2 M2 h2; exact ⟨fun _ => nxt _ _ _ _ _ _ h2, fun n => absurd (by first | rfl | exact icr r) n⟩
  case c1 =>
    intro _
    refine ⟨by omega, by omega, by omega, fun e => ?_, fun e => ?_⟩
    · unfold mL_law_J297
      rw [kh_c8]
      refine op_run (K := ?gK2) (op_forbid (sb _) (sb _) (by decide)) hR ?gc ?gk
      case gc =>
        intro x F1 hx z
        obtain ⟨fs, h69⟩ := hx
        refine ⟨by omega, by omega, by omega, fun _ => ?_, fun n => absurd e n⟩
        unfold mL_law_J324
        rw [rcv_s h69]
        exact z
      case gk => intro r G2 v2 N2 T2 u2 M2 h2; exact ⟨fun _ => nxt _ _ _ _ _ _ h2, fun n => absurd (by first | rfl | exact icr r) n⟩
    · unfold mL_law_J297
      rw [kh_c8]
      refine op_run (K := ?gK3) (op_forbid (sb _) (sb _) (by decide)) hR ?gc ?gk
      case gc =>
        intro x F1 hx z
        obtain ⟨fs, h69⟩ := hx
        refine ⟨by omega, by omega, by omega, fun n => absurd n e, fun _ => ?_⟩
        unfold mL_law_J324
        rw [rcv_s h69]
        exact z
      case gk => intro r G2 v2 N2 T2 u2 M2 h2; exact ⟨fun _ => nxt _ _ _ _ _ _ h2, fun n => absurd (by first | rfl | exact icr r) n⟩
  case c2 =>
    intro _
    refine ⟨by omega, by omega, by omega, ?_⟩
    rw [kh_c8]
    refine op_run (K := ?gK4) (op_times (sb _) (sb _) (sb _)) hR ?gc ?gk
    case gc =>
      intro x F1 hx z
      obtain ⟨fs, h69⟩ := hx
      refine ⟨by omega, by omega, by omega, ?_⟩
      rw [rcv_s h69]
      exact z
    case gk => intro r G2 v2 N2 T2 u2 M2 h2; exact ⟨fun _ => nxt _ _ _ _ _ _ h2, fun n => absurd (by first | rfl | exact icr r) n⟩
  case c3 =>
    intro _
    refine ⟨by omega, by omega, by omega, by omega, by omega, ?_⟩
    rw [kh_c8]
    refine op_run (K := ?gK5) (op_feed ) hR ?gc ?gk
    case gc =>
      intro x F1 hx z
      obtain ⟨fs, h69⟩ := hx
      refine ⟨by omega, by omega, by omega, by omega, by omega, ?_⟩
      rw [rcv_s h69]
      exact z
    case gk => intro r G2 v2 N2 T2 u2 M2 h2; exact ⟨fun _ => nxt _ _ _ _ _ _ h2, fun n => absurd (by first | rfl | exact icr r) n⟩
  case c4 =>
    intro _
    refine ⟨by omega, ?_⟩
    rw [kh_c8]
    refine op_run (K := ?gK6) (op_end (sb _)) hR ?gc ?gk
    case gc =>
      intro x F1 hx z
      obtain ⟨fs, h69⟩ := hx
      refine ⟨by omega, ?_⟩
      rw [rcv_s h69]
      exact z
    case gk => intro r G2 v2 N2 T2 u2 M2 h2; exact ⟨fun _ => nxt _ _ _ _ _ _ h2, fun n => absurd (by first | rfl | exact icr r) n⟩
  case c5 =>
    intro _
    rw [kh_c8]
    refine op_run (K := ?gK7) (op_text ) hR ?gc ?gk
    case gc =>
      intro x F1 hx z
      obtain ⟨fs, h69⟩ := hx
      rw [rcv_s h69]
      exact z
    case gk => intro r G2 v2 N2 T2 u2 M2 h2; exact ⟨fun _ => nxt _ _ _ _ _ _ h2, fun n => absurd (by first | rfl | exact icr r) n⟩
  case c6 =>
    intro _
    refine ⟨by omega, ?_⟩
    rw [kh_c8]
    refine op_run (K := ?gK8) (op_fault (sb _)) hR ?gc ?gk
    case gc =>
      intro x F1 hx z
      obtain ⟨fs, h69⟩ := hx
      refine ⟨by omega, ?_⟩
      rw [rcv_s h69]
      exact z
    case gk => intro r G2 v2 N2 T2 u2 M2 h2; exact ⟨fun _ => nxt _ _ _ _ _ _ h2, fun n => absurd (by first | rfl | exact icr r) n⟩
  case c7 =>
    intro _
    refine ⟨by omega, ?_⟩
    rw [kh_c8]
    refine op_run (K := ?gK9) (op_by (sb _)) hR ?gc ?gk
    case gc =>
      intro x F1 hx z
      obtain ⟨fs, h69⟩ := hx
      refine ⟨by omega, ?_⟩
      rw [rcv_s h69]
      exact z
    case gk => intro r G2 v2 N2 T2 u2 M2 h2; exact ⟨fun _ => nxt _ _ _ _ _ _ h2, fun n => absurd (by first | rfl | exact icr r) n⟩
  case c8 =>
    intro _
    refine ⟨by omega, by omega, ?_⟩
    rw [kh_c8]
    refine op_run (K := ?gK10) (op_move (sb _) (sb _)) hR ?gc ?gk
    case gc =>
      intro x F1 hx z
      obtain ⟨fs, h69⟩ := hx
      refine ⟨by omega, by omega, ?_⟩
      rw [rcv_s h69]
      exact z
    case gk => intro r G2 v2 N2 T2 u2 M2 h2; exact ⟨fun _ => nxt _ _ _ _ _ _ h2, fun n => absurd (by first | rfl | exact icr r) n⟩
  case c9 =>
    intro _
    rw [kh_c8]
    refine op_run (K := ?gK11) (op_change ) hR ?gc ?gk
    case gc =>
      intro x F1 hx z
      obtain ⟨fs, h69⟩ := hx
      rw [rcv_s h69]
      exact z
    case gk => intro r G2 v2 N2 T2 u2 M2 h2; exact ⟨fun _ => nxt _ _ _ _ _ _ h2, fun n => absurd (by first | rfl | exact icr r) n⟩
  case c10 =>
    intro _
    refine ⟨by omega, by omega, ?_⟩
    rw [kh_c8]
    refine op_run (K := ?gK12) (op_lend (sb _) (sb _)) hR ?gc ?gk
    case gc =>
      intro x F1 hx z
      obtain ⟨fs, h69⟩ := hx
      refine ⟨by omega, by omega, ?_⟩
      rw [rcv_s h69]
      exact z
    case gk => intro r G2 v2 N2 T2 u2 M2 h2; exact ⟨fun _ => nxt _ _ _ _ _ _ h2, fun n => absurd (by first | rfl | exact icr r) n⟩
  case c11 =>
    intro _
    refine ⟨by omega, ?_⟩
    rw [kh_c8]
    refine op_run (K := ?gK13) (op_hour (sb _)) hR ?gc ?gk
    case gc =>
      intro x F1 hx z
      obtain ⟨fs, h69⟩ := hx
      refine ⟨by omega, ?_⟩
      rw [rcv_s h69]
      exact z
    case gk => intro r G2 v2 N2 T2 u2 M2 h2; exact ⟨fun _ => nxt _ _ _ _ _ _ h2, fun n => absurd (by first | rfl | exact icr r) n⟩
  case c12 =>
    intro _
    refine ⟨by omega, ?_⟩
    rw [kh_c8]
    refine op_run (K := ?gK14) (op_played (sb _)) hR ?gc ?gk
    case gc =>
      intro x F1 hx z
      obtain ⟨fs, h69⟩ := hx
      refine ⟨by omega, ?_⟩
      rw [rcv_s h69]
      exact z
    case gk => intro r G2 v2 N2 T2 u2 M2 h2; exact ⟨fun _ => nxt _ _ _ _ _ _ h2, fun n => absurd (by first | rfl | exact icr r) n⟩
  case c13 =>
    intro _
    refine ⟨by omega, by omega, ?_⟩
    rw [kh_c8]
    refine op_run (K := ?gK15) (op_years (sb _) (sb _)) hR ?gc ?gk
    case gc =>
      intro x F1 hx z
      obtain ⟨fs, h69⟩ := hx
      refine ⟨by omega, by omega, ?_⟩
      rw [rcv_s h69]
      exact z
    case gk => intro r G2 v2 N2 T2 u2 M2 h2; exact ⟨fun _ => nxt _ _ _ _ _ _ h2, fun n => absurd (by first | rfl | exact icr r) n⟩
  case c14 =>
    intro _
    rw [kh_c8]
    refine op_run (K := ?gK16) (op_undo ) hR ?gc ?gk
    case gc =>
      intro x F1 hx z
      obtain ⟨fs, h69⟩ := hx
      rw [rcv_s h69]
      exact z
    case gk => intro r G2 v2 N2 T2 u2 M2 h2; exact ⟨fun _ => nxt _ _ _ _ _ _ h2, fun n => absurd (by first | rfl | exact icr r) n⟩
  case c15 =>
    intro _
    refine ⟨by omega, by omega, ?_⟩
    rw [kh_c8]
    refine op_run (K := ?gK17) (op_of (sb _) (sb _)) hR ?gc ?gk
    case gc =>
      intro x F1 hx z
      obtain ⟨fs, h69⟩ := hx
      refine ⟨by omega, by omega, ?_⟩
      rw [rcv_s h69]
      exact z
    case gk => intro r G2 v2 N2 T2 u2 M2 h2; exact ⟨fun _ => nxt _ _ _ _ _ _ h2, fun n => absurd (by first | rfl | exact icr r) n⟩
  case c16 =>
    intro _
    refine ⟨by omega, by omega, ?_⟩
    rw [kh_c8]
    refine op_run (K := ?gK18) (op_track (sb _) (sb _)) hR ?gc ?gk
    case gc =>
      intro x F1 hx z
      obtain ⟨fs, h69⟩ := hx
      refine ⟨by omega, by omega, ?_⟩
      rw [rcv_s h69]
      exact z
    case gk => intro r G2 v2 N2 T2 u2 M2 h2; exact ⟨fun _ => nxt _ _ _ _ _ _ h2, fun n => absurd (by first | rfl | exact icr r) n⟩
  case c17 =>
    intro _
    refine ⟨by omega, by omega, ?_⟩
    rw [kh_c8]
    refine op_run (K := ?gK19) (op_law (sb _) (sb _)) hR ?gc ?gk
    case gc =>
      intro x F1 hx z
      obtain ⟨fs, h69⟩ := hx
      refine ⟨by omega, by omega, ?_⟩
      rw [rcv_s h69]
      exact z
    case gk => intro r G2 v2 N2 T2 u2 M2 h2; exact ⟨fun _ => nxt _ _ _ _ _ _ h2, fun n => absurd (by first | rfl | exact icr r) n⟩
  case c18 =>
    intro _
    refine ⟨by omega, ?_⟩
    rw [kh_c8]
    refine op_run (K := ?gK20) (op_is (sb _)) hR ?gc ?gk
    case gc =>
      intro x F1 hx z
      obtain ⟨fs, h69⟩ := hx
      refine ⟨by omega, ?_⟩
      rw [rcv_s h69]
      exact z
    case gk => intro r G2 v2 N2 T2 u2 M2 h2; exact ⟨fun _ => nxt _ _ _ _ _ _ h2, fun n => absurd (by first | rfl | exact icr r) n⟩
  case c19 =>
    intro _
    refine ⟨by omega, by omega, ?_⟩
    rw [kh_c8]
    refine op_run (K := ?gK21) (op_book (sb _) (sb _)) hR ?gc ?gk
    case gc =>
      intro x F1 hx z
      obtain ⟨fs, h69⟩ := hx
      refine ⟨by omega, by omega, ?_⟩
      rw [rcv_s h69]
      exact z
    case gk => intro r G2 v2 N2 T2 u2 M2 h2; exact ⟨fun _ => nxt _ _ _ _ _ _ h2, fun n => absurd (by first | rfl | exact icr r) n⟩
  case c20 =>
    intro _
    refine ⟨by omega, by omega, ?_⟩
    rw [kh_c8]
    refine op_run (K := ?gK22) (op_foretold (sb _) (sb _)) hR ?gc ?gk
    case gc =>
      intro x F1 hx z
      obtain ⟨fs, h69⟩ := hx
      refine ⟨by omega, by omega, ?_⟩
      rw [rcv_s h69]
      exact z
    case gk => intro r G2 v2 N2 T2 u2 M2 h2; exact ⟨fun _ => nxt _ _ _ _ _ _ h2, fun n => absurd (by first | rfl | exact icr r) n⟩
  case c21 =>
    intro _
    refine ⟨by omega, ?_⟩
    rw [kh_c8]
    refine op_run (K := ?gK23) (op_want (sb _)) hR ?gc ?gk
    case gc =>
      intro x F1 hx z
      obtain ⟨fs, h69⟩ := hx
      refine ⟨by omega, ?_⟩
      rw [rcv_s h69]
      exact z
    case gk => intro r G2 v2 N2 T2 u2 M2 h2; exact ⟨fun _ => nxt _ _ _ _ _ _ h2, fun n => absurd (by first | rfl | exact icr r) n⟩
  case c22 =>
    intro _
    refine ⟨by omega, ?_⟩
    rw [kh_c8]
    refine op_run (K := ?gK24) (op_shunts (sb _)) hR ?gc ?gk
    case gc =>
      intro x F1 hx z
      obtain ⟨fs, h69⟩ := hx
      refine ⟨by omega, ?_⟩
      rw [rcv_s h69]
      exact z
    case gk => intro r G2 v2 N2 T2 u2 M2 h2; exact ⟨fun _ => nxt _ _ _ _ _ _ h2, fun n => absurd (by first | rfl | exact icr r) n⟩
  case c23 =>
    intro _
    rw [kh_c8]
    refine op_run (K := ?gK25) (op_reach ) hR ?gc ?gk
    case gc =>
      intro x F1 hx z
      obtain ⟨fs, h69⟩ := hx
      rw [rcv_s h69]
      exact z
    case gk => intro r G2 v2 N2 T2 u2 M2 h2; exact ⟨fun _ => nxt _ _ _ _ _ _ h2, fun n => absurd (by first | rfl | exact icr r) n⟩
  case c24 =>
    intro _
    refine ⟨by omega, by omega, ?_⟩
    rw [kh_c8]
    refine op_run (K := ?gK26) (op_order (sb _) (sb _)) hR ?gc ?gk
    case gc =>
      intro x F1 hx z
      obtain ⟨fs, h69⟩ := hx
      refine ⟨by omega, by omega, ?_⟩
      rw [rcv_s h69]
      exact z
    case gk => intro r G2 v2 N2 T2 u2 M2 h2; exact ⟨fun _ => nxt _ _ _ _ _ _ h2, fun n => absurd (by first | rfl | exact icr r) n⟩
  case c25 =>
    intro _
    refine ⟨by omega, ?_⟩
    rw [kh_c8]
    refine op_run (K := ?gK27) (op_rows (sb _)) hR ?gc ?gk
    case gc =>
      intro x F1 hx z
      obtain ⟨fs, h69⟩ := hx
      refine ⟨by omega, ?_⟩
      rw [rcv_s h69]
      exact z
    case gk => intro r G2 v2 N2 T2 u2 M2 h2; exact ⟨fun _ => nxt _ _ _ _ _ _ h2, fun n => absurd (by first | rfl | exact icr r) n⟩
  case c26 =>
    intro _
    refine ⟨by omega, by omega, ?_⟩
    rw [kh_c8]
    refine op_run (K := ?gK28) (op_lowest (sb _) (sb _)) hR ?gc ?gk
    case gc =>
      intro x F1 hx z
      obtain ⟨fs, h69⟩ := hx
      refine ⟨by omega, by omega, ?_⟩
      rw [rcv_s h69]
      exact z
    case gk => intro r G2 v2 N2 T2 u2 M2 h2; exact ⟨fun _ => nxt _ _ _ _ _ _ h2, fun n => absurd (by first | rfl | exact icr r) n⟩
  case c27 =>
    intro _
    refine ⟨by omega, fun e => ?_, fun e => ?_⟩
    · unfold mL_law_J1042
      rw [kh_c8]
      refine op_run (K := ?gK29) (op_crane (by decide)) hR ?gc ?gk
      case gc =>
        intro x F1 hx z
        obtain ⟨fs, h69⟩ := hx
        refine ⟨by omega, fun _ => ?_, fun n => absurd e n⟩
        unfold mL_law_J1059
        rw [rcv_s h69]
        exact z
      case gk => intro r G2 v2 N2 T2 u2 M2 h2; exact ⟨fun _ => nxt _ _ _ _ _ _ h2, fun n => absurd (by first | rfl | exact icr r) n⟩
    · unfold mL_law_J1042
      rw [kh_c8]
      refine op_run (K := ?gK30) (op_crane (by decide)) hR ?gc ?gk
      case gc =>
        intro x F1 hx z
        obtain ⟨fs, h69⟩ := hx
        refine ⟨by omega, fun n => absurd n e, fun _ => ?_⟩
        unfold mL_law_J1059
        rw [rcv_s h69]
        exact z
      case gk => intro r G2 v2 N2 T2 u2 M2 h2; exact ⟨fun _ => nxt _ _ _ _ _ _ h2, fun n => absurd (by first | rfl | exact icr r) n⟩
  case c28 =>
    intro _
    rw [kh_c8]
    refine op_run (K := ?gK31) (op_idle ) hR ?gc ?gk
    case gc =>
      intro x F1 hx z
      obtain ⟨fs, h69⟩ := hx
      rw [rcv_s h69]
      exact z
    case gk => intro r G2 v2 N2 T2 u2 M2 h2; exact ⟨fun _ => nxt _ _ _ _ _ _ h2, fun n => absurd (by first | rfl | exact icr r) n⟩
  case c29 =>
    intro _
    refine ⟨by omega, by omega, by omega, ?_⟩
    rw [kh_c8]
    refine op_run (K := ?gK32) (op_owe (sb _) (sb _) (sb _)) hR ?gc ?gk
    case gc =>
      intro x F1 hx z
      obtain ⟨fs, h69⟩ := hx
      refine ⟨by omega, by omega, by omega, ?_⟩
      rw [rcv_s h69]
      exact z
    case gk => intro r G2 v2 N2 T2 u2 M2 h2; exact ⟨fun _ => nxt _ _ _ _ _ _ h2, fun n => absurd (by first | rfl | exact icr r) n⟩
  case c30 =>
    intro _
    refine ⟨by omega, ?_⟩
    rw [kh_c8]
    refine op_run (K := ?gK33) (op_balance (sb _)) hR ?gc ?gk
    case gc =>
      intro x F1 hx z
      obtain ⟨fs, h69⟩ := hx
      refine ⟨by omega, ?_⟩
      rw [rcv_s h69]
      exact z
    case gk => intro r G2 v2 N2 T2 u2 M2 h2; exact ⟨fun _ => nxt _ _ _ _ _ _ h2, fun n => absurd (by first | rfl | exact icr r) n⟩
  case c31 =>
    intro _
    refine ⟨by omega, ?_⟩
    rw [kh_c8]
    refine op_run (K := ?gK34) (op_settled (sb _) hn) hR ?gc ?gk
    case gc =>
      intro x F1 hx z
      obtain ⟨fs, h69⟩ := hx
      refine ⟨by omega, ?_⟩
      rw [rcv_s h69]
      exact z
    case gk => intro r G2 v2 N2 T2 u2 M2 h2; exact ⟨fun _ => nxt _ _ _ _ _ _ h2, fun n => absurd (by first | rfl | exact icr r) n⟩
  case c32 =>
    intro _
    refine ⟨by omega, ?_⟩
    rw [kh_c8]
    refine op_run (K := ?gK35) (op_group (sb _) hn) hR ?gc ?gk
    case gc =>
      intro x F1 hx z
      obtain ⟨fs, h69⟩ := hx
      refine ⟨by omega, ?_⟩
      rw [rcv_s h69]
      exact z
    case gk => intro r G2 v2 N2 T2 u2 M2 h2; exact ⟨fun _ => nxt _ _ _ _ _ _ h2, fun n => absurd (by first | rfl | exact icr r) n⟩
  case c33 =>
    intro _
    refine ⟨by omega, by omega, by omega, ?_⟩
    rw [kh_c8]
    refine op_run (K := ?gK36) (op_trip (sb _) (sb _) (sb _)) hR ?gc ?gk
    case gc =>
      intro x F1 hx z
      obtain ⟨fs, h69⟩ := hx
      refine ⟨by omega, by omega, by omega, ?_⟩
      rw [rcv_s h69]
      exact z
    case gk => intro r G2 v2 N2 T2 u2 M2 h2; exact ⟨fun _ => nxt _ _ _ _ _ _ h2, fun n => absurd (by first | rfl | exact icr r) n⟩
  case c34 =>
    intro _
    refine ⟨by omega, fun e => ?_, fun e => ?_⟩
    · unfold mL_law_J1249
      rw [kh_c8]
      refine op_run (K := ?gK37) (op_stock (by decide)) hR ?gc ?gk
      case gc =>
        intro x F1 hx z
        obtain ⟨fs, h69⟩ := hx
        refine ⟨by omega, fun _ => ?_, fun n => absurd e n⟩
        unfold mL_law_J1266
        rw [rcv_s h69]
        exact z
      case gk => intro r G2 v2 N2 T2 u2 M2 h2; exact ⟨fun _ => nxt _ _ _ _ _ _ h2, fun n => absurd (by first | rfl | exact icr r) n⟩
    · unfold mL_law_J1249
      rw [kh_c8]
      refine op_run (K := ?gK38) (op_stock (by decide)) hR ?gc ?gk
      case gc =>
        intro x F1 hx z
        obtain ⟨fs, h69⟩ := hx
        refine ⟨by omega, fun n => absurd n e, fun _ => ?_⟩
        unfold mL_law_J1266
        rw [rcv_s h69]
        exact z
      case gk => intro r G2 v2 N2 T2 u2 M2 h2; exact ⟨fun _ => nxt _ _ _ _ _ _ h2, fun n => absurd (by first | rfl | exact icr r) n⟩
  case c35 =>
    intro _
    refine ⟨by omega, by omega, by omega, ?_⟩
    rw [kh_c8]
    refine op_run (K := ?gK39) (op_seen (sb _) (sb _) (sb _)) hR ?gc ?gk
    case gc =>
      intro x F1 hx z
      obtain ⟨fs, h69⟩ := hx
      refine ⟨by omega, by omega, by omega, ?_⟩
      rw [rcv_s h69]
      exact z
    case gk => intro r G2 v2 N2 T2 u2 M2 h2; exact ⟨fun _ => nxt _ _ _ _ _ _ h2, fun n => absurd (by first | rfl | exact icr r) n⟩
  case c36 =>
    intro _
    refine ⟨by omega, fun e => ?_, fun e => ?_⟩
    · unfold mL_law_J1331
      rw [kh_c8]
      refine op_run (K := ?gK40) (op_histories (by decide)) hR ?gc ?gk
      case gc =>
        intro x F1 hx z
        obtain ⟨fs, h69⟩ := hx
        refine ⟨by omega, fun _ => ?_, fun n => absurd e n⟩
        unfold mL_law_J1348
        rw [rcv_s h69]
        exact z
      case gk => intro r G2 v2 N2 T2 u2 M2 h2; exact ⟨fun _ => nxt _ _ _ _ _ _ h2, fun n => absurd (by first | rfl | exact icr r) n⟩
    · unfold mL_law_J1331
      rw [kh_c8]
      refine op_run (K := ?gK41) (op_histories (by decide)) hR ?gc ?gk
      case gc =>
        intro x F1 hx z
        obtain ⟨fs, h69⟩ := hx
        refine ⟨by omega, fun n => absurd n e, fun _ => ?_⟩
        unfold mL_law_J1348
        rw [rcv_s h69]
        exact z
      case gk => intro r G2 v2 N2 T2 u2 M2 h2; exact ⟨fun _ => nxt _ _ _ _ _ _ h2, fun n => absurd (by first | rfl | exact icr r) n⟩
  case c37 =>
    intro _
    refine ⟨by omega, by omega, ?_⟩
    rw [kh_c8]
    refine op_run (K := ?gK42) (op_late (sb _) (sb _)) hR ?gc ?gk
    case gc =>
      intro x F1 hx z
      obtain ⟨fs, h69⟩ := hx
      refine ⟨by omega, by omega, ?_⟩
      rw [rcv_s h69]
      exact z
    case gk => intro r G2 v2 N2 T2 u2 M2 h2; exact ⟨fun _ => nxt _ _ _ _ _ _ h2, fun n => absurd (by first | rfl | exact icr r) n⟩
  case c38 =>
    intro _
    refine ⟨by omega, by omega, fun e => ?_, fun e => ?_⟩
    · unfold mL_law_J1408
      rw [kh_c8]
      refine op_run (K := ?gK43) (op_likely (sb _) (by decide)) hR ?gc ?gk
      case gc =>
        intro x F1 hx z
        obtain ⟨fs, h69⟩ := hx
        refine ⟨by omega, by omega, fun _ => ?_, fun n => absurd e n⟩
        unfold mL_law_J1430
        rw [rcv_s h69]
        exact z
      case gk => intro r G2 v2 N2 T2 u2 M2 h2; exact ⟨fun _ => nxt _ _ _ _ _ _ h2, fun n => absurd (by first | rfl | exact icr r) n⟩
    · unfold mL_law_J1408
      rw [kh_c8]
      refine op_run (K := ?gK44) (op_likely (sb _) (by decide)) hR ?gc ?gk
      case gc =>
        intro x F1 hx z
        obtain ⟨fs, h69⟩ := hx
        refine ⟨by omega, by omega, fun n => absurd n e, fun _ => ?_⟩
        unfold mL_law_J1430
        rw [rcv_s h69]
        exact z
      case gk => intro r G2 v2 N2 T2 u2 M2 h2; exact ⟨fun _ => nxt _ _ _ _ _ _ h2, fun n => absurd (by first | rfl | exact icr r) n⟩
  case c39 =>
    intro _
    refine ⟨by omega, by omega, ?_⟩
    rw [kh_c8]
    refine op_run (K := ?gK45) (op_said (sb _) (sb _)) hR ?gc ?gk
    case gc =>
      intro x F1 hx z
      obtain ⟨fs, h69⟩ := hx
      refine ⟨by omega, by omega, ?_⟩
      rw [rcv_s h69]
      exact z
    case gk => intro r G2 v2 N2 T2 u2 M2 h2; exact ⟨fun _ => nxt _ _ _ _ _ _ h2, fun n => absurd (by first | rfl | exact icr r) n⟩
  case c40 =>
    intro _
    rw [kh_c8]
    refine op_run (K := ?gK46) (op_whose ) hR ?gc ?gk
    case gc =>
      intro x F1 hx z
      obtain ⟨fs, h69⟩ := hx
      rw [rcv_s h69]
      exact z
    case gk => intro r G2 v2 N2 T2 u2 M2 h2; exact ⟨fun _ => nxt _ _ _ _ _ _ h2, fun n => absurd (by first | rfl | exact icr r) n⟩
  case c41 =>
    intro _
    rw [kh_c8]
    refine op_run (K := ?gK47) (op_heaviest ) hR ?gc ?gk
    case gc =>
      intro x F1 hx z
      obtain ⟨fs, h69⟩ := hx
      rw [rcv_s h69]
      exact z
    case gk => intro r G2 v2 N2 T2 u2 M2 h2; exact ⟨fun _ => nxt _ _ _ _ _ _ h2, fun n => absurd (by first | rfl | exact icr r) n⟩
  case c42 =>
    intro _
    rw [kh_c8]
    refine op_run (K := ?gK48) (op_worn ) hR ?gc ?gk
    case gc =>
      intro x F1 hx z
      obtain ⟨fs, h69⟩ := hx
      rw [rcv_s h69]
      exact z
    case gk => intro r G2 v2 N2 T2 u2 M2 h2; exact ⟨fun _ => nxt _ _ _ _ _ _ h2, fun n => absurd (by first | rfl | exact icr r) n⟩
  case c43 =>
    intro _
    rw [kh_c8]
    refine op_run (K := ?gK49) (op_amiss ) hR ?gc ?gk
    case gc =>
      intro x F1 hx z
      obtain ⟨fs, h69⟩ := hx
      rw [rcv_s h69]
      exact z
    case gk => intro r G2 v2 N2 T2 u2 M2 h2; exact ⟨fun _ => nxt _ _ _ _ _ _ h2, fun n => absurd (by first | rfl | exact icr r) n⟩
  case c44 =>
    intro _
    refine ⟨by omega, ?_⟩
    rw [kh_c8]
    refine op_run (K := ?gK50) (op_ledger (sb _)) hR ?gc ?gk
    case gc =>
      intro x F1 hx z
      obtain ⟨fs, h69⟩ := hx
      refine ⟨by omega, ?_⟩
      rw [rcv_s h69]
      exact z
    case gk => intro r G2 v2 N2 T2 u2 M2 h2; exact ⟨fun _ => nxt _ _ _ _ _ _ h2, fun n => absurd (by first | rfl | exact icr r) n⟩
  case c45 =>
    intro _
    rw [kh_c8]
    refine op_run (K := ?gK51) (op_image ) hR ?gc ?gk
    case gc =>
      intro x F1 hx z
      obtain ⟨fs, h69⟩ := hx
      rw [rcv_s h69]
      exact z
    case gk => intro r G2 v2 N2 T2 u2 M2 h2; exact ⟨fun _ => nxt _ _ _ _ _ _ h2, fun n => absurd (by first | rfl | exact icr r) n⟩
  case c46 =>
    intro _
    rw [kh_c8]
    refine op_run (K := ?gK52) (op_back ) hR ?gc ?gk
    case gc =>
      intro x F1 hx z
      obtain ⟨fs, h69⟩ := hx
      rw [rcv_s h69]
      exact z
    case gk => intro r G2 v2 N2 T2 u2 M2 h2; exact ⟨fun _ => nxt _ _ _ _ _ _ h2, fun n => absurd (by first | rfl | exact icr r) n⟩
  case c47 =>
    intro _
    refine ⟨by omega, ?_⟩
    rw [kh_c8]
    refine op_run (K := ?gK53) (op_about (sb _)) hR ?gc ?gk
    case gc =>
      intro x F1 hx z
      obtain ⟨fs, h69⟩ := hx
      refine ⟨by omega, ?_⟩
      rw [rcv_s h69]
      exact z
    case gk => intro r G2 v2 N2 T2 u2 M2 h2; exact ⟨fun _ => nxt _ _ _ _ _ _ h2, fun n => absurd (by first | rfl | exact icr r) n⟩
  case cd => exact fun _ => nxt _ _ _ _ _ _ (Rel_up hR)
theorem lp_a {L : Nat} {xs : Nat → Int32} (hL : L ≤ 384) (sb : ∀ i, -2147483648 ≤ sx xs i ∧ sx xs i ≤ 2147483647) : ∀ (k m : Nat) (G : hp) (v : Nat → Nat → Int) (N : Nat → Int → Int) (T : Nat → Int → Option Nat) (u : Nat → Int) (M : Nat → Int → Int), m + k = 64 → Rel (m : Int) G v N T u M → mL_law_L18 L xs (fun r _ => r = 1) (k + 1) (some 8) (some 69) (6 * (m : Int)) (kh (rh G u M) v N T) := by
  intro k
  induction k with
  | zero =>
    intro m G v N T u M hk hR
    rw [mL_law_L18, w32_id (x := (L : Int) - 6) (by omega) (by omega), w32_id (x := 6 * (m : Int)) (by omega) (by omega)]
    exact ⟨fun _ => rfl, fun hlt => absurd (show (L : Int) - 6 < 6 * (m : Int) by omega) hlt⟩
  | succ k ih =>
    intro m G v N T u M hk hR
    refine lp_s hL (k + 1) m hk sb hR (fun G' v' N' T' u' M' h' => ?_)
    have := ih (m + 1) G' v' N' T' u' M' (by omega) (by rw [show ((m + 1 : Nat) : Int) = (m : Int) + 1 by omega]; exact h')
    rw [show 6 * ((m + 1 : Nat) : Int) = 6 * (m : Int) + 6 by omega] at this
    exact this
theorem sx_b (xs : Nat → Int32) (i : Int) : -2147483648 ≤ sx xs i ∧ sx xs i ≤ 2147483647 := by
  unfold sx
  have h1 := Int32.le_toInt (xs i.toNat)
  have h2 := Int32.toInt_lt (xs i.toNat)
  omega
end LP
