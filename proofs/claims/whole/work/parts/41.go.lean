/-! ===== go ===== -/
abbrev goS : Type := (Nat → Int32) × Int32 × (Nat → Int32) × (Nat → Int32) × (Nat → Int32) × Int32 × (Nat → Int32) × Int32 × Int32 × (Nat → Option Nat) × eSS × Nat
abbrev gA41 (s : goS) : Nat → Int32 := s.1
abbrev gc0 (s : goS) : Int32 := s.2.1
abbrev gA43 (s : goS) : Nat → Int32 := s.2.2.1
abbrev gA44 (s : goS) : Nat → Int32 := s.2.2.2.1
abbrev gA45 (s : goS) : Nat → Int32 := s.2.2.2.2.1
abbrev gtot (s : goS) : Int32 := s.2.2.2.2.2.1
abbrev gA55 (s : goS) : Nat → Int32 := s.2.2.2.2.2.2.1
abbrev gnxt (s : goS) : Int32 := s.2.2.2.2.2.2.2.1
abbrev gsiz (s : goS) : Int32 := s.2.2.2.2.2.2.2.2.1
abbrev grng (s : goS) : Nat → Option Nat := s.2.2.2.2.2.2.2.2.2.1
abbrev gSS (s : goS) : eSS := s.2.2.2.2.2.2.2.2.2.2.1
abbrev gK (s : goS) : Nat := s.2.2.2.2.2.2.2.2.2.2.2
def fgo_step (w hh : Int32) (A53 : Nat → Int32) (nx : Nat) (s : goS) : Option (Int32 × goS) :=
  (f_rem (grng s) (gSS s) (gnxt s) (gsiz s) (gA41 s) (gA55 s) (gtot s) (nx + 3 * gK s)).bind (fun q =>
  e_g (decide (gK s + q.2.2.2.2 ≤ 20)) (
  (fX1_clearTally (gA45 s)).bind (fun t =>
  (fX1_playRound w hh (gc0 s) (gA41 s) (gA43 s) (gA44 s) t A53).bind (fun r =>
  (fX3_add (gtot s) r.2.2.2.2 (gA55 s) r.1).bind (fun a =>
  some (r.2.2.2.2 (tn 0), (r.2.1, r.1, r.2.2.1, r.2.2.2.1, r.2.2.2.2, a.1, a.2, q.1, q.2.1, q.2.2.1, q.2.2.2.1, gK s + q.2.2.2.2)))))))
def fX11_go (a40_0 a40_1 : Int32) (A53 A62 : Nat → Int32) (s0 : goS) (p0 : Int32) (nx : Nat) : Option (Int32 × (Nat → Int32) × goS) :=
  (fX11_isEmpty a40_0).bind (fun b =>
  if b = true then (fX11_refuse A62 0).bind (fun r => some (r.1, r.2, s0))
  else if p0 < 1 then (fX11_refuse A62 2).bind (fun r => some (r.1, r.2, s0))
  else if p0 ≤ 40 then
    (e_loop (fun (v : Int32 × Int32 × goS) => (if p0 ≤ v.2.1 then some (.inr (v.1, v.2.2)) else
      (fgo_step a40_0 a40_1 A53 nx v.2.2).bind (fun r => some (.inl (v.1 + r.1, v.2.1 + 1, r.2))) : Option ((Int32 × Int32 × goS) ⊕ (Int32 × goS)))) e_fuel (0, 0, s0)).bind (fun y => some (y.1, A62, y.2))
  else (fX11_refuse A62 2).bind (fun r => some (r.1, r.2, s0)))
def go_ok (h : Nat → eO) (nx : Nat) (q6 nl : Nat) (LE : Nat → Int32) (s : goS) (hB : Nat → eO) : Prop :=
  (∀ k, k < 99 → [41, 42, 43, 44, 45, 54, 55, 56, 57].contains k = false → hB k = h k) ∧ hB 41 = o41 (gA41 s) ∧ hB 42 = o42 (gc0 s) ∧ hB 43 = o43 (gA43 s) ∧ hB 44 = o44 (gA44 s) ∧ hB 45 = o45 (gA45 s) ∧ hB 54 = o54 (gtot s) ∧ hB 55 = o55 (gA55 s) ∧ hB 56 = o56 (gnxt s) (gsiz s) ∧ hB 57 = o57 (grng s) ∧ e_dyn hB (nx + 3 * gK s) (grng s) (gSS s) q6 nl LE ∧ gK s ≤ 20
set_option maxRecDepth 100000 in
theorem tX11_go_32 {G : eG} (hG : e_GS G) {la : Launch} {h : Nat → eO} {nx : Nat} (hnx : 99 ≤ nx) {a32_8 a32_10 : Bool} {a40_0 a40_1 : Int32} {A53 A62 : Nat → Int32} {s0 : goS} {q6 nl : Nat} {LE : Nat → Int32} {p0 : Int32} (h32 : h 32 = o32 a32_8 a32_10) (h39 : h 39 = o39) (h40 : h 40 = o40 a40_0 a40_1) (h53 : h 53 = o53 A53) (h62 : h 62 = o62 A62) (hs0 : go_ok h nx q6 nl LE s0 h) {R9 : Int32 × (Nat → Int32) × goS} (hf : fX11_go a40_0 a40_1 A53 A62 s0 p0 nx = some R9) (hK0 : gK s0 = 0) :
    eSemB G la MX11_go [.ref 32, .int p0] h nx 60 9740 (fun r9 h9 nx9 => r9 = some (.int R9.1) ∧ nx9 = nx + 3 * gK R9.2.2 ∧ h9 62 = o62 R9.2.1 ∧ go_ok h nx q6 nl LE R9.2.2 (fun k => if k = 62 then h 62 else h9 k)) := by
  refine eSemB.of (k := 2) (L := [some (.ref 32), some (.int p0), none, none]) (by decide +kernel) rfl rfl (fun X F hxl hq hcR hsR => ?_)
  subst hxl
  unfold fX11_go at hf
  -- refused
  have ref : ∀ (w : Int32) (r : Int32 × (Nat → Int32)), fX11_refuse A62 w = some r → (r.1, r.2, s0) = R9 → go_ok h nx q6 nl LE R9.2.2 (fun k => if k = 62 then h 62 else e_up h [(62, o62 R9.2.1)] k) ∧ nx = nx + 3 * gK R9.2.2 := by
    intro w r _ e
    subst e
    refine ⟨?_, by show nx = nx + 3 * gK s0; rw [hK0]; rfl⟩
    have e2 : (fun k => if k = 62 then h 62 else e_up h [(62, o62 r.2)] k) = h := by
      funext k
      by_cases ek : k = 62
      · subst ek; rfl
      · simp only [if_neg ek]
        exact e_up_hi _ _ (fun p hp e => by simp at hp; subst hp; exact ek e.symm)
    rw [e2]
    exact hs0
  refine r_aload_n F dX11_go_0 rfl ?_
  obtain ⟨b, hb, hf⟩ := e_bd hf
  refine r_callV F dX11_go_1 (b := 32) (dc := 0) (ds := 0) (As := []) (S0 := []) lkX11_136 mX11_isEmpty (tX11_isEmpty_32 hG (la := x_l X) (h := e_up h []) hnx h32 h39 h40 hb) rfl rfl rfl (e_le rfl) (e_le rfl) (e_le rfl) h32 (ci := 11) e_cl11.1 rfl (e_le rfl) (e_lt hnx rfl) (Nat.zero_le _) (Nat.zero_le _) (e_k ?_)
  refine r_wr0 ?_
  refine r_z_eq F dX11_go_4 (tgt := 13) (by decide) (fun hc => ?_) (fun hc => ?_)
  · have hf := e_t hc hf
    obtain ⟨r, hr, hf⟩ := e_bd hf
    obtain rfl := Option.some.inj hf
    refine r_aload_n F dX11_go_7 rfl ?_
    refine r_iconst F dX11_go_8 (v := 0) (by decide) ?_
    refine r_callV F dX11_go_9 (b := 32) (dc := 0) (ds := 0) (As := [.int 0]) (S0 := []) lkX11_243 mX11_refuse (tX11_refuse_32 hG (la := x_l X) (h := e_up h []) hnx h32 h62 hr) rfl rfl rfl (e_le rfl) (e_le rfl) (e_le rfl) h32 (ci := 11) e_cl11.1 rfl (e_le rfl) (e_lt hnx rfl) (Nat.zero_le _) (Nat.zero_le _) (e_k ?_)
    refine r_wr (l' := [(62, o62 r.2)]) rfl rfl ?_
    exact r_iretB F hq dX11_go_12 rfl (Nat.zero_le _) (Nat.zero_le _) ⟨rfl, (ref 0 r hr rfl).2, rfl, (ref 0 r hr rfl).1⟩
  · have hf := e_f hc hf
    have no : ∀ (r : Int32 × (Nat → Int32)), fX11_refuse A62 2 = some r → some (r.1, r.2, s0) = some R9 → eRun G X 24 [some (.ref 32), some (.int p0), none, none] [] h [] nx 0 0 := by
      intro r hr hf
      obtain rfl := Option.some.inj hf
      refine r_aload_n F dX11_go_24 rfl ?_
      refine r_iconst F dX11_go_25 (v := 2) (by decide) ?_
      refine r_callV F dX11_go_26 (b := 32) (dc := 0) (ds := 0) (As := [.int 2]) (S0 := []) lkX11_243 mX11_refuse (tX11_refuse_32 hG (la := x_l X) (h := e_up h []) hnx h32 h62 hr) rfl rfl rfl (e_le rfl) (e_le rfl) (e_le rfl) h32 (ci := 11) e_cl11.1 rfl (e_le rfl) (e_lt hnx rfl) (Nat.zero_le _) (Nat.zero_le _) (e_k ?_)
      refine r_wr (l' := [(62, o62 r.2)]) rfl rfl ?_
      exact r_iretB F hq dX11_go_29 rfl (Nat.zero_le _) (Nat.zero_le _) ⟨rfl, (ref 2 r hr rfl).2, rfl, (ref 2 r hr rfl).1⟩
    refine r_iload_n F dX11_go_13 rfl ?_
    refine r_iconst F dX11_go_14 (v := 1) (by decide) ?_
    refine r_icmp_lt F dX11_go_15 (tgt := 24) (by decide) (fun hc => ?_) (fun hc => ?_)
    · have hf := e_t hc hf
      obtain ⟨r, hr, hf⟩ := e_bd hf
      exact no r hr hf
    have hf := e_f hc hf
    refine r_iload_n F dX11_go_18 rfl ?_
    refine r_bipush F dX11_go_19 (v := 40) (by decide) ?_
    refine r_icmp_le F dX11_go_21 (tgt := 30) (by decide) (fun hc => ?_) (fun hc => ?_)
    · have hf := e_t hc hf
      obtain ⟨y, hy, hf⟩ := e_bd hf
      obtain rfl := Option.some.inj hf
      refine r_iconst F dX11_go_30 (v := 0) (by decide) ?_
      refine r_istore_n F dX11_go_31 (e_le rfl) (L' := [some (.ref 32), some (.int p0), some (.int 0), none]) rfl ?_
      refine r_iconst F dX11_go_32 (v := 0) (by decide) ?_
      refine r_istore_n F dX11_go_33 (e_le rfl) (L' := [some (.ref 32), some (.int p0), some (.int 0), some (.int 0)]) rfl ?_
      have hL := e_loop_ok (P := fun (v : Int32 × Int32 × goS) => ∀ hB : Nat → eO, go_ok h nx q6 nl LE v.2.2 hB → eRun G X 34 [some (.ref 32), some (.int p0), some (.int v.1), some (.int v.2.1)] [] hB [] (nx + 3 * gK v.2.2) (3 * gK v.2.2) (487 * gK v.2.2))
        (K := fun (y : Int32 × goS) => ∀ hB : Nat → eO, go_ok h nx q6 nl LE y.2 hB → eRun G X 117 [none, none, some (.int y.1), none] [] hB [] (nx + 3 * gK y.2) (3 * gK y.2) (487 * gK y.2)) ?_ e_fuel (0, 0, s0) y hy ?_
      · refine r_num (nx' := nx + 3 * gK s0) (c' := 3 * gK s0) (sl' := 487 * gK s0) (by rw [hK0]) (by rw [hK0]) (by rw [hK0]) ?_
        exact hL h hs0
      · intro v z hz ih hx hB hok
        obtain ⟨f0, g41, g42, g43, g44, g45, g54, g55, g56, g57, gdy, gK20⟩ := id hok
        have hnx2 : 99 ≤ nx + 3 * gK v.2.2 := by omega
        have g32 := (f0 32 (by decide) rfl).trans h32
        have g39 := (f0 39 (by decide) rfl).trans h39
        have g40 := (f0 40 (by decide) rfl).trans h40
        have g53 := (f0 53 (by decide) rfl).trans h53
        refine r_iload_n F dX11_go_34 rfl ?_
        refine r_iload_n F dX11_go_35 rfl ?_
        refine r_icmp_ge F dX11_go_36 (tgt := 117) (by decide) (fun hc => ?_) (fun hc => ?_)
        · have hz := e_t hc hz
          obtain rfl := Option.some.inj hz
          refine r_drop 0 (L' := [none, some (.int p0), some (.int v.1), some (.int v.2.1)]) rfl ?_
          refine r_drop 1 (L' := [none, none, some (.int v.1), some (.int v.2.1)]) rfl ?_
          refine r_drop 3 (L' := [none, none, some (.int v.1), none]) rfl ?_
          exact hx (v.1, v.2.2) rfl hB hok
        have hz := e_f hc hz
        obtain ⟨r0, hr0, hz⟩ := e_bd hz
        obtain rfl := Option.some.inj hz
        unfold fgo_step at hr0
        obtain ⟨q, hq9, hr0⟩ := e_bd hr0
        obtain ⟨hg, hr0⟩ := e_gd hr0
        have hKq := of_decide_eq_true hg
        obtain ⟨t, ht, hr0⟩ := e_bd hr0
        obtain ⟨r, hr, hr0⟩ := e_bd hr0
        obtain ⟨a, ha, hr0⟩ := e_bd hr0
        obtain rfl := Option.some.inj hr0
        refine r_aload_n F dX11_go_39 rfl ?_
        refine r_get F dX11_go_40 flX11_49 g32 rfl (e_le rfl) (e_lt hnx2 rfl) ?_
        refine r_aload_n F dX11_go_43 rfl ?_
        refine r_get F dX11_go_44 flX11_28 g32 rfl (e_le rfl) (e_lt hnx2 rfl) ?_
        refine r_get F dX11_go_47 flX11_141 g39 rfl (e_le rfl) (e_lt hnx2 rfl) ?_
        refine r_aload_n F dX11_go_50 rfl ?_
        refine r_get F dX11_go_51 flX11_42 g32 rfl (e_le rfl) (e_lt hnx2 rfl) ?_
        refine r_callV F dX11_go_54 (b := 56) (dc := 3 * q.2.2.2.2) (ds := 487 * q.2.2.2.2) (As := [.ref 40, .ref 54]) (S0 := []) lkX11_250 mX4_remember (t_rem hG (la := x_l X) (h := e_up hB []) hnx2 g40 g41 g54 g55 g56 g57 gdy hq9) rfl rfl rfl (e_le rfl) (e_le rfl) (e_le rfl) g56 (ci := 4) e_cl4.1 rfl (e_le rfl) (e_lt hnx2 rfl) (by rw [hcR]; omega) (by rw [hsR]; omega) (fun r9 hC p9 => ?_)
        obtain ⟨e9, fr, c56, c57, cdy⟩ := p9
        subst e9
        refine r_num (nx' := nx + 3 * (gK v.2.2 + q.2.2.2.2)) (c' := 3 * (gK v.2.2 + q.2.2.2.2)) (sl' := 487 * (gK v.2.2 + q.2.2.2.2)) (by omega) (by omega) (by omega) ?_
        have hnx3 : 99 ≤ nx + 3 * (gK v.2.2 + q.2.2.2.2) := by omega
        have c32 := (fr 32 (by decide) (by decide) (by decide)).trans g32
        have c39 := (fr 39 (by decide) (by decide) (by decide)).trans g39
        have c40 := (fr 40 (by decide) (by decide) (by decide)).trans g40
        have c41 := (fr 41 (by decide) (by decide) (by decide)).trans g41
        have c42 := (fr 42 (by decide) (by decide) (by decide)).trans g42
        have c43 := (fr 43 (by decide) (by decide) (by decide)).trans g43
        have c44 := (fr 44 (by decide) (by decide) (by decide)).trans g44
        have c45 := (fr 45 (by decide) (by decide) (by decide)).trans g45
        have c53 := (fr 53 (by decide) (by decide) (by decide)).trans g53
        have c54 := (fr 54 (by decide) (by decide) (by decide)).trans g54
        have c55 := (fr 55 (by decide) (by decide) (by decide)).trans g55
        refine r_aload_n F dX11_go_57 rfl ?_
        refine r_get F dX11_go_58 flX11_28 c32 rfl (e_le rfl) (e_lt hnx3 rfl) ?_
        refine r_callV F dX11_go_61 (b := 39) (dc := 0) (ds := 0) (As := []) (S0 := []) lkX11_261 mX1_clearTally (tX1_clearTally_39 hG (la := x_l X) (h := e_up hC []) hnx3 c39 c45 ht) rfl rfl rfl (e_le rfl) (e_le rfl) (e_le rfl) c39 (ci := 1) e_cl1.1 rfl (e_le rfl) (e_lt hnx3 rfl) (by rw [hcR]; omega) (by rw [hsR]; omega) (e_k ?_)
        refine r_wr (l' := [(45, o45 t)]) rfl rfl ?_
        refine r_aload_n F dX11_go_64 rfl ?_
        refine r_get F dX11_go_65 flX11_28 c32 rfl (e_le rfl) (e_lt hnx3 rfl) ?_
        refine r_aload_n F dX11_go_68 rfl ?_
        refine r_get F dX11_go_69 flX11_35 c32 rfl (e_le rfl) (e_lt hnx3 rfl) ?_
        refine r_callV F dX11_go_72 (b := 39) (dc := 0) (ds := 0) (As := [.ref 53]) (S0 := []) lkX11_264 mX1_playRound (tX1_playRound_39_53 hG (la := x_l X) (h := e_up hC [(45, o45 t)]) hnx3 c39 c40 c41 c42 c43 c44 rfl c53 hr) rfl rfl rfl (e_le rfl) (e_le rfl) (e_le rfl) c39 (ci := 1) e_cl1.1 rfl (e_le rfl) (e_lt hnx3 rfl) (by rw [hcR]; omega) (by rw [hsR]; omega) (e_k ?_)
        refine r_wr (l' := [(41, o41 r.2.1), (42, o42 r.1), (43, o43 r.2.2.1), (44, o44 r.2.2.2.1), (45, o45 r.2.2.2.2)]) rfl rfl ?_
        refine r_aload_n F dX11_go_75 rfl ?_
        refine r_get F dX11_go_76 flX11_42 c32 rfl (e_le rfl) (e_lt hnx3 rfl) ?_
        refine r_aload_n F dX11_go_79 rfl ?_
        refine r_get F dX11_go_80 flX11_28 c32 rfl (e_le rfl) (e_lt hnx3 rfl) ?_
        refine r_get F dX11_go_83 flX11_268 c39 rfl (e_le rfl) (e_lt hnx3 rfl) ?_
        refine r_aload_n F dX11_go_86 rfl ?_
        refine r_get F dX11_go_87 flX11_28 c32 rfl (e_le rfl) (e_lt hnx3 rfl) ?_
        refine r_get F dX11_go_90 flX11_127 c39 rfl (e_le rfl) (e_lt hnx3 rfl) ?_
        refine r_get F dX11_go_93 flX11_131 rfl rfl (e_le rfl) (e_lt hnx3 rfl) ?_
        refine r_callV F dX11_go_96 (b := 54) (dc := 0) (ds := 0) (As := [.ref 45, .int r.1]) (S0 := []) lkX11_271 mX3_add (tX3_add_54_45 hG (la := x_l X) (h := e_up hC [(41, o41 r.2.1), (42, o42 r.1), (43, o43 r.2.2.1), (44, o44 r.2.2.2.1), (45, o45 r.2.2.2.2)]) hnx3 rfl c54 c55 ha) rfl rfl rfl (e_le rfl) (e_le rfl) (e_le rfl) c54 (ci := 3) e_cl3.1 rfl (e_le rfl) (e_lt hnx3 rfl) (by rw [hcR]; omega) (by rw [hsR]; omega) (e_k ?_)
        refine r_wr (l' := [(41, o41 r.2.1), (42, o42 r.1), (43, o43 r.2.2.1), (44, o44 r.2.2.2.1), (45, o45 r.2.2.2.2), (54, o54 a.1), (55, o55 a.2)]) rfl rfl ?_
        refine r_iload_n F dX11_go_99 rfl ?_
        refine r_aload_n F dX11_go_100 rfl ?_
        refine r_get F dX11_go_101 flX11_28 c32 rfl (e_le rfl) (e_lt hnx3 rfl) ?_
        refine r_get F dX11_go_104 flX11_268 c39 rfl (e_le rfl) (e_lt hnx3 rfl) ?_
        refine r_iconst F dX11_go_107 (v := 0) (by decide) ?_
        refine r_iald F dX11_go_108 (i := 0) rfl (e_le rfl) (e_lt hnx3 rfl) (e_vp (by decide)) ?_
        refine r_iadd F dX11_go_109 ?_
        refine r_istore_n F dX11_go_110 (e_le rfl) (L' := [some (.ref 32), some (.int p0), some (.int (v.1 + r.2.2.2.2 (tn 0))), some (.int v.2.1)]) rfl ?_
        refine r_inc F dX11_go_111 (k9 := 1) (by decide) rfl (L' := [some (.ref 32), some (.int p0), some (.int (v.1 + r.2.2.2.2 (tn 0))), some (.int (v.2.1 + 1))]) rfl ?_
        refine r_goto F dX11_go_114 (tgt := 34) (by decide) ?_
        refine r_pic2 (h' := e_up hC [(41, o41 r.2.1), (42, o42 r.1), (43, o43 r.2.2.1), (44, o44 r.2.2.2.1), (45, o45 r.2.2.2.2), (54, o54 a.1), (55, o55 a.2)]) (l' := []) rfl ?_
        refine ih _ rfl _ ⟨?_, rfl, rfl, rfl, rfl, rfl, rfl, rfl, c56, c57, e_dyn.up rfl (by rw [Nat.mul_add, ← Nat.add_assoc]; exact cdy), hKq⟩
        intro k hk hw
        rw [e_up_hi]
        · rw [fr k hk (fun e => by rw [e] at hw; cases hw) (fun e => by rw [e] at hw; cases hw)]
          exact f0 k hk hw
        · intro p hp e
          simp only [List.mem_cons, List.mem_nil_iff, or_false] at hp
          rcases hp with rfl | rfl | rfl | rfl | rfl | rfl | rfl <;> (simp only at e; subst e; cases hw)
      · intro hB hok
        refine r_iload_n F dX11_go_117 rfl ?_
        have h62B : hB 62 = o62 A62 := (hok.1 62 (by decide) rfl).trans h62
        refine r_iretB F hq dX11_go_118 rfl (by have := hok.2.2.2.2.2.2.2.2.2.2.2; omega) (by have := hok.2.2.2.2.2.2.2.2.2.2.2; omega) ⟨rfl, rfl, h62B, ?_⟩
        have e2 : (fun k => if k = 62 then h 62 else e_up hB [] k) = hB := by
          funext k
          by_cases ek : k = 62
          · subst ek; simp only [if_true]; rw [h62B, h62]
          · simp only [if_neg ek]; rfl
        rw [e2]
        exact hok
    · have hf := e_f hc hf
      obtain ⟨r, hr, hf⟩ := e_bd hf
      exact no r hr hf
