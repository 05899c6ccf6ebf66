/-! ===== turns of the law: helpers ===== -/
theorem up_r {h : Nat → eO} {l : List (Nat × eO)} (hl : l.all (fun p => Nat.ble 72 p.1) = true) : ∀ k, k < 72 → e_up h l k = h k := fun k hk => e_up_hi l k (fun p hp e => by
  have h1 := List.all_eq_true.mp hl p hp
  have h2 := Nat.le_of_ble_eq_true h1
  omega)
theorem up_c {h : Nat → eO} {l : List (Nat × eO)} (hl : l.all (fun p => Nat.blt p.1 72) = true) : ∀ k, 72 ≤ k → k < 99 → e_up h l k = h k := fun k hk _ => e_up_hi l k (fun p hp e => by
  have h1 := List.all_eq_true.mp hl p hp
  have h2 := Nat.blt_eq.mp h1
  omega)
theorem nowR.cg {B W H : Nat} (hW : W ≤ 9) (hH : H ≤ 9) {g rows pl ve f f2 : Nat → Int32} {T sz : Int32} (h : nowR B W H g rows pl ve T sz f) (e : ∀ k, k < 486 → f2 k = f k) : nowR B W H g rows pl ve T sz f2 := by
  have ha : agr W H f f2 := agr_lo hW hH (fun k hk => (e k (by omega)).symm)
  obtain ⟨h1, h2, h3⟩ := h
  refine ⟨sv.congr hW hH h1 (fun _ _ => rfl) (fun _ _ => rfl) e, ?_, celC_agr ha h3⟩
  rw [h2, coreL_agr ha]
theorem txR1 {n : Nat} {im wk : Bool} {w h sz tot siz : Int32} {g pl ve told : Nat → Int32} {W' H' : Int32} {acts : Int32} {wk' im' : Bool} {f told' rows : Nat → Int32} {y : cTX} {z : rTX} (e : txR n im wk w h sz tot siz g pl ve told W' H' acts wk' im' f told' rows y z) : z.1 = y.1 := e.1
