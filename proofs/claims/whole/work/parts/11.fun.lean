/-! ===== functions that a method is read as ===== -/
abbrev tn (i : Int32) : Nat := i.toNatClampNeg
def e_in (i : Int32) (n : Nat) : Bool := !(decide (i < 0) || decide (n ≤ i.toNatClampNeg))
theorem e_vp {i : Int32} {n : Nat} (h : e_in i n = true) : vp_in i n := by
  unfold e_in at h
  intro q
  rcases q with q | q <;> simp [q] at h
def e_nz (y : Int32) : Bool := !(decide (y = 0))
theorem e_nz_ne {y : Int32} (h : e_nz y = true) : ¬ y = 0 := by
  intro q
  simp [e_nz, q] at h
def e_nzl (y : Int64) : Bool := !(decide (y = 0))
theorem e_nzl_ne {y : Int64} (h : e_nzl y = true) : ¬ y = 0 := by
  intro q
  simp [e_nzl, q] at h
/-- goes on only if b -/
def e_g {α : Type} (b : Bool) (k : Option α) : Option α := bif b then k else none
theorem e_gd {α : Type} {b : Bool} {k : Option α} {z : α} (h : e_g b k = some z) : b = true ∧ k = some z := by
  cases b with
  | false => cases h
  | true => exact ⟨rfl, h⟩
theorem e_bd {α β : Type} {o : Option α} {k : α → Option β} {z : β} (h : o.bind k = some z) : ∃ a, o = some a ∧ k a = some z := by
  cases o with
  | none => cases h
  | some a => exact ⟨a, rfl, h⟩
theorem e_t {α : Type} {c : Prop} [Decidable c] {a b z : α} (hc : c) (h : (if c then a else b) = z) : a = z := by rw [if_pos hc] at h; exact h
theorem e_f {α : Type} {c : Prop} [Decidable c] {a b z : α} (hc : ¬ c) (h : (if c then a else b) = z) : b = z := by rw [if_neg hc] at h; exact h
def e_loop {V Y : Type} (b : V → Option (V ⊕ Y)) : Nat → V → Option Y
  | 0, _ => none
  | n + 1, v => (b v).bind (fun z => match z with
    | .inl v' => e_loop b n v'
    | .inr y => some y)
theorem e_loop_ok {V Y : Type} {b : V → Option (V ⊕ Y)} {P : V → Prop} {K : Y → Prop} (hb : ∀ (v : V) (z : V ⊕ Y), b v = some z → (∀ v', z = .inl v' → P v') → (∀ y, z = .inr y → K y) → P v) : ∀ (n : Nat) (v : V) (y : Y), e_loop b n v = some y → K y → P v := by
  intro n
  induction n with
  | zero => intro v y h; cases h
  | succ n ih =>
    intro v y h hk
    obtain ⟨z, hz, h⟩ := e_bd h
    refine hb v z hz (fun v' e => ?_) (fun y' e => ?_)
    · subst e
      exact ih v' y h hk
    · subst e
      cases h
      exact hk
/-- how often a loop may go round -/
def e_fuel : Nat := 100000
theorem e_k {rv : Option Value} {hh : Nat → eO} {P : Option Value → (Nat → eO) → Prop} (h : P rv hh) : ∀ (r9 : Option Value) (h9 : Nat → eO), (r9 = rv ∧ h9 = hh) → P r9 h9 := by
  rintro _ _ ⟨rfl, rfl⟩
  exact h
section FUN
variable {G : eG} {M : eM} {X : eX} {pc nx c sl : Nat} {L : List (Option Value)} {S : List Value} {h : Nat → eO} {l : List (Nat × eO)}
theorem r_ldcw (F : eFx G M X) {i : Nat} {v : Int32} (hd : decode (e_cc M) pc = .ok (.ldc_w i, 3)) (hw : Cond.constant (e_y M).cls i v ∈ e_tb) (k : eRun G X (pc + 3) L (.int v :: S) h l nx c sl) : eRun G X pc L S h l nx c sl :=
  fun H locs ls hR hS hL => lv_ldcw F.1 F.2.1 F.2.2.2.1 (F.2.2.2.2.1 _ hw) hd (k H locs ls hR hS hL)
theorem r_i2c (F : eFx G M X) {x : Int32} (hd : decode (e_cc M) pc = .ok (.i2c, 1)) (k : eRun G X (pc + 1) L (.int (x.toUInt32 % 65536).toInt32 :: S) h l nx c sl) : eRun G X pc L (.int x :: S) h l nx c sl :=
  fun H locs ls hR hS hL => lv_i2c F.1 F.2.1 hd rfl (k H locs ls hR hS hL)
/-- a count in a local goes on by a constant -/
theorem r_inc (F : eFx G M X) {i : Nat} {n : Int} {x k9 : Int32} {L' : List (Option Value)} (hd : decode (e_cc M) pc = .ok (.iinc i n, 3)) (hk : Int32.ofInt n = k9) (hl : L[i]? = some (some (.int x))) (hL' : e_st1 L i (.int (x + k9)) = L') (k : eRun G X (pc + 3) L' S h l nx c sl) : eRun G X pc L S h l nx c sl :=
  r_iinc F hd hl (by rw [hk]) hL' k
theorem e_zeq {b : Bool} : e_b b = 0 ↔ ¬ b = true := by cases b <;> decide
theorem r_z_eq (F : eFx G M X) {b : Bool} {off : Int} {tgt : Nat} (hd : decode (e_cc M) pc = .ok (.ifCond .eq off, 3)) (ht : (pc : Int) + off = (tgt : Int)) (kf : b = true → eRun G X (pc + 3) L S h l nx c sl) (kt : ¬ b = true → eRun G X tgt L S h l nx c sl) : eRun G X pc L (.int (e_b b) :: S) h l nx c sl :=
  r_if_eq F hd ht (fun z => kt (e_zeq.mp z)) (fun z => kf (Classical.byContradiction fun q => z (e_zeq.mpr q)))
theorem r_z_ne (F : eFx G M X) {b : Bool} {off : Int} {tgt : Nat} (hd : decode (e_cc M) pc = .ok (.ifCond .ne off, 3)) (ht : (pc : Int) + off = (tgt : Int)) (kt : b = true → eRun G X tgt L S h l nx c sl) (kf : ¬ b = true → eRun G X (pc + 3) L S h l nx c sl) : eRun G X pc L (.int (e_b b) :: S) h l nx c sl :=
  r_if_ne F hd ht (fun z => kt (Classical.byContradiction fun q => z (e_zeq.mpr q))) (fun z => kf (e_zeq.mp z))
/-- a local that isn't asked any more -/
theorem r_drop (i : Nat) {L' : List (Option Value)} (hL' : L.set i none = L') (k : eRun G X pc L' S h l nx c sl) : eRun G X pc L S h l nx c sl := by
  intro H locs ls hR hS hL
  refine k H locs ls hR hS ?_
  subst hL'
  refine ⟨by rw [List.length_set]; exact hL.1, hL.2.1, fun q hq => ?_⟩
  obtain ⟨j, w, h1, rfl⟩ := (e_pairs_mem _ _ _).mp hq
  by_cases e : i = j
  · subst e
    have hl : i < (L.set i none).length := (List.getElem?_eq_some_iff.mp h1).1
    rw [List.length_set] at hl
    rw [List.getElem?_set_self hl] at h1
    cases h1
  · rw [List.getElem?_set_ne e] at h1
    have := hL.at h1
    simpa using this
theorem r_mat {k : Nat} {o : eO} {l' : List (Nat × eO)} (ho : e_up h l k = o) (hl : e_ins l k o = l') (kk : eRun G X pc L S h l' nx c sl) : eRun G X pc L S h l nx c sl := r_pic (e_up_same h ho hl) kk
theorem r_icmp_eq_t (F : eFx G M X) {x y : Int32} {off : Int} {tgt : Nat} (hd : decode (e_cc M) pc = .ok (.if_icmp .eq off, 3)) (ht : (pc : Int) + off = (tgt : Int)) (hx : x = y) (kt : eRun G X tgt L S h l nx c sl) : eRun G X pc L (.int y :: .int x :: S) h l nx c sl :=
  r_icmp_eq F hd ht (fun _ => kt) (fun z => absurd hx z)
theorem r_icmp_eq_f (F : eFx G M X) {x y : Int32} {off : Int} {tgt : Nat} (hd : decode (e_cc M) pc = .ok (.if_icmp .eq off, 3)) (ht : (pc : Int) + off = (tgt : Int)) (hx : ¬ x = y) (kf : eRun G X (pc + 3) L S h l nx c sl) : eRun G X pc L (.int y :: .int x :: S) h l nx c sl :=
  r_icmp_eq F hd ht (fun z => absurd z hx) (fun _ => kf)
theorem r_if_eq_t (F : eFx G M X) {x : Int32} {off : Int} {tgt : Nat} (hd : decode (e_cc M) pc = .ok (.ifCond .eq off, 3)) (ht : (pc : Int) + off = (tgt : Int)) (hx : x = 0) (kt : eRun G X tgt L S h l nx c sl) : eRun G X pc L (.int x :: S) h l nx c sl :=
  r_if_eq F hd ht (fun _ => kt) (fun z => absurd hx z)
theorem r_if_eq_f (F : eFx G M X) {x : Int32} {off : Int} {tgt : Nat} (hd : decode (e_cc M) pc = .ok (.ifCond .eq off, 3)) (ht : (pc : Int) + off = (tgt : Int)) (hx : ¬ x = 0) (kf : eRun G X (pc + 3) L S h l nx c sl) : eRun G X pc L (.int x :: S) h l nx c sl :=
  r_if_eq F hd ht (fun z => absurd z hx) (fun _ => kf)
theorem r_icmp_ne_t (F : eFx G M X) {x y : Int32} {off : Int} {tgt : Nat} (hd : decode (e_cc M) pc = .ok (.if_icmp .ne off, 3)) (ht : (pc : Int) + off = (tgt : Int)) (hx : ¬ x = y) (kt : eRun G X tgt L S h l nx c sl) : eRun G X pc L (.int y :: .int x :: S) h l nx c sl :=
  r_icmp_ne F hd ht (fun _ => kt) (fun z => absurd z hx)
theorem r_icmp_ne_f (F : eFx G M X) {x y : Int32} {off : Int} {tgt : Nat} (hd : decode (e_cc M) pc = .ok (.if_icmp .ne off, 3)) (ht : (pc : Int) + off = (tgt : Int)) (hx : x = y) (kf : eRun G X (pc + 3) L S h l nx c sl) : eRun G X pc L (.int y :: .int x :: S) h l nx c sl :=
  r_icmp_ne F hd ht (fun z => absurd hx z) (fun _ => kf)
theorem r_if_ne_t (F : eFx G M X) {x : Int32} {off : Int} {tgt : Nat} (hd : decode (e_cc M) pc = .ok (.ifCond .ne off, 3)) (ht : (pc : Int) + off = (tgt : Int)) (hx : ¬ x = 0) (kt : eRun G X tgt L S h l nx c sl) : eRun G X pc L (.int x :: S) h l nx c sl :=
  r_if_ne F hd ht (fun _ => kt) (fun z => absurd z hx)
theorem r_if_ne_f (F : eFx G M X) {x : Int32} {off : Int} {tgt : Nat} (hd : decode (e_cc M) pc = .ok (.ifCond .ne off, 3)) (ht : (pc : Int) + off = (tgt : Int)) (hx : x = 0) (kf : eRun G X (pc + 3) L S h l nx c sl) : eRun G X pc L (.int x :: S) h l nx c sl :=
  r_if_ne F hd ht (fun z => absurd hx z) (fun _ => kf)
theorem r_icmp_lt_t (F : eFx G M X) {x y : Int32} {off : Int} {tgt : Nat} (hd : decode (e_cc M) pc = .ok (.if_icmp .lt off, 3)) (ht : (pc : Int) + off = (tgt : Int)) (hx : x < y) (kt : eRun G X tgt L S h l nx c sl) : eRun G X pc L (.int y :: .int x :: S) h l nx c sl :=
  r_icmp_lt F hd ht (fun _ => kt) (fun z => absurd hx z)
theorem r_icmp_lt_f (F : eFx G M X) {x y : Int32} {off : Int} {tgt : Nat} (hd : decode (e_cc M) pc = .ok (.if_icmp .lt off, 3)) (ht : (pc : Int) + off = (tgt : Int)) (hx : ¬ x < y) (kf : eRun G X (pc + 3) L S h l nx c sl) : eRun G X pc L (.int y :: .int x :: S) h l nx c sl :=
  r_icmp_lt F hd ht (fun z => absurd z hx) (fun _ => kf)
theorem r_if_lt_t (F : eFx G M X) {x : Int32} {off : Int} {tgt : Nat} (hd : decode (e_cc M) pc = .ok (.ifCond .lt off, 3)) (ht : (pc : Int) + off = (tgt : Int)) (hx : x < 0) (kt : eRun G X tgt L S h l nx c sl) : eRun G X pc L (.int x :: S) h l nx c sl :=
  r_if_lt F hd ht (fun _ => kt) (fun z => absurd hx z)
theorem r_if_lt_f (F : eFx G M X) {x : Int32} {off : Int} {tgt : Nat} (hd : decode (e_cc M) pc = .ok (.ifCond .lt off, 3)) (ht : (pc : Int) + off = (tgt : Int)) (hx : ¬ x < 0) (kf : eRun G X (pc + 3) L S h l nx c sl) : eRun G X pc L (.int x :: S) h l nx c sl :=
  r_if_lt F hd ht (fun z => absurd z hx) (fun _ => kf)
theorem r_icmp_ge_t (F : eFx G M X) {x y : Int32} {off : Int} {tgt : Nat} (hd : decode (e_cc M) pc = .ok (.if_icmp .ge off, 3)) (ht : (pc : Int) + off = (tgt : Int)) (hx : y ≤ x) (kt : eRun G X tgt L S h l nx c sl) : eRun G X pc L (.int y :: .int x :: S) h l nx c sl :=
  r_icmp_ge F hd ht (fun _ => kt) (fun z => absurd hx z)
theorem r_icmp_ge_f (F : eFx G M X) {x y : Int32} {off : Int} {tgt : Nat} (hd : decode (e_cc M) pc = .ok (.if_icmp .ge off, 3)) (ht : (pc : Int) + off = (tgt : Int)) (hx : ¬ y ≤ x) (kf : eRun G X (pc + 3) L S h l nx c sl) : eRun G X pc L (.int y :: .int x :: S) h l nx c sl :=
  r_icmp_ge F hd ht (fun z => absurd z hx) (fun _ => kf)
theorem r_if_ge_t (F : eFx G M X) {x : Int32} {off : Int} {tgt : Nat} (hd : decode (e_cc M) pc = .ok (.ifCond .ge off, 3)) (ht : (pc : Int) + off = (tgt : Int)) (hx : 0 ≤ x) (kt : eRun G X tgt L S h l nx c sl) : eRun G X pc L (.int x :: S) h l nx c sl :=
  r_if_ge F hd ht (fun _ => kt) (fun z => absurd hx z)
theorem r_if_ge_f (F : eFx G M X) {x : Int32} {off : Int} {tgt : Nat} (hd : decode (e_cc M) pc = .ok (.ifCond .ge off, 3)) (ht : (pc : Int) + off = (tgt : Int)) (hx : ¬ 0 ≤ x) (kf : eRun G X (pc + 3) L S h l nx c sl) : eRun G X pc L (.int x :: S) h l nx c sl :=
  r_if_ge F hd ht (fun z => absurd z hx) (fun _ => kf)
theorem r_icmp_gt_t (F : eFx G M X) {x y : Int32} {off : Int} {tgt : Nat} (hd : decode (e_cc M) pc = .ok (.if_icmp .gt off, 3)) (ht : (pc : Int) + off = (tgt : Int)) (hx : y < x) (kt : eRun G X tgt L S h l nx c sl) : eRun G X pc L (.int y :: .int x :: S) h l nx c sl :=
  r_icmp_gt F hd ht (fun _ => kt) (fun z => absurd hx z)
theorem r_icmp_gt_f (F : eFx G M X) {x y : Int32} {off : Int} {tgt : Nat} (hd : decode (e_cc M) pc = .ok (.if_icmp .gt off, 3)) (ht : (pc : Int) + off = (tgt : Int)) (hx : ¬ y < x) (kf : eRun G X (pc + 3) L S h l nx c sl) : eRun G X pc L (.int y :: .int x :: S) h l nx c sl :=
  r_icmp_gt F hd ht (fun z => absurd z hx) (fun _ => kf)
theorem r_if_gt_t (F : eFx G M X) {x : Int32} {off : Int} {tgt : Nat} (hd : decode (e_cc M) pc = .ok (.ifCond .gt off, 3)) (ht : (pc : Int) + off = (tgt : Int)) (hx : 0 < x) (kt : eRun G X tgt L S h l nx c sl) : eRun G X pc L (.int x :: S) h l nx c sl :=
  r_if_gt F hd ht (fun _ => kt) (fun z => absurd hx z)
theorem r_if_gt_f (F : eFx G M X) {x : Int32} {off : Int} {tgt : Nat} (hd : decode (e_cc M) pc = .ok (.ifCond .gt off, 3)) (ht : (pc : Int) + off = (tgt : Int)) (hx : ¬ 0 < x) (kf : eRun G X (pc + 3) L S h l nx c sl) : eRun G X pc L (.int x :: S) h l nx c sl :=
  r_if_gt F hd ht (fun z => absurd z hx) (fun _ => kf)
theorem r_icmp_le_t (F : eFx G M X) {x y : Int32} {off : Int} {tgt : Nat} (hd : decode (e_cc M) pc = .ok (.if_icmp .le off, 3)) (ht : (pc : Int) + off = (tgt : Int)) (hx : x ≤ y) (kt : eRun G X tgt L S h l nx c sl) : eRun G X pc L (.int y :: .int x :: S) h l nx c sl :=
  r_icmp_le F hd ht (fun _ => kt) (fun z => absurd hx z)
theorem r_icmp_le_f (F : eFx G M X) {x y : Int32} {off : Int} {tgt : Nat} (hd : decode (e_cc M) pc = .ok (.if_icmp .le off, 3)) (ht : (pc : Int) + off = (tgt : Int)) (hx : ¬ x ≤ y) (kf : eRun G X (pc + 3) L S h l nx c sl) : eRun G X pc L (.int y :: .int x :: S) h l nx c sl :=
  r_icmp_le F hd ht (fun z => absurd z hx) (fun _ => kf)
theorem r_if_le_t (F : eFx G M X) {x : Int32} {off : Int} {tgt : Nat} (hd : decode (e_cc M) pc = .ok (.ifCond .le off, 3)) (ht : (pc : Int) + off = (tgt : Int)) (hx : x ≤ 0) (kt : eRun G X tgt L S h l nx c sl) : eRun G X pc L (.int x :: S) h l nx c sl :=
  r_if_le F hd ht (fun _ => kt) (fun z => absurd hx z)
theorem r_if_le_f (F : eFx G M X) {x : Int32} {off : Int} {tgt : Nat} (hd : decode (e_cc M) pc = .ok (.ifCond .le off, 3)) (ht : (pc : Int) + off = (tgt : Int)) (hx : ¬ x ≤ 0) (kf : eRun G X (pc + 3) L S h l nx c sl) : eRun G X pc L (.int x :: S) h l nx c sl :=
  r_if_le F hd ht (fun z => absurd z hx) (fun _ => kf)
end FUN
