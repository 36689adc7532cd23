/-! Numbers: an int of the machine as an Int. -/
def iZ (z : Int) : Int32 := Int32.ofInt z
theorem iZ_add (a b : Int) : iZ a + iZ b = iZ (a + b) := (Int32.ofInt_add a b).symm
theorem iZ_sub (a b : Int) : iZ a - iZ b = iZ (a - b) := (Int32.ofInt_sub a b).symm
theorem iZ_mul (a b : Int) : iZ a * iZ b = iZ (a * b) := (Int32.ofInt_mul a b).symm
theorem iZ_neg (a : Int) : -iZ a = iZ (-a) := (Int32.ofInt_neg a).symm
theorem iZ_toInt {z : Int} (h : -2147483648 ≤ z ∧ z < 2147483648) : (iZ z).toInt = z := Int32.toInt_ofInt_of_le h.1 h.2
theorem iZ_of (x : Int32) : ∃ z : Int, (-2147483648 ≤ z ∧ z < 2147483648) ∧ x = iZ z := by
  have h1 := Int32.le_toInt x
  have h2 := Int32.toInt_lt x
  exact ⟨x.toInt, ⟨by omega, by omega⟩, (Int32.ofInt_toInt x).symm⟩
theorem iZ_le {a b : Int} (ha : -2147483648 ≤ a ∧ a < 2147483648) (hb : -2147483648 ≤ b ∧ b < 2147483648) : iZ a ≤ iZ b ↔ a ≤ b := by
  rw [Int32.le_iff_toInt_le, iZ_toInt ha, iZ_toInt hb]
theorem iZ_lt {a b : Int} (ha : -2147483648 ≤ a ∧ a < 2147483648) (hb : -2147483648 ≤ b ∧ b < 2147483648) : iZ a < iZ b ↔ a < b := by
  rw [Int32.lt_iff_toInt_lt, iZ_toInt ha, iZ_toInt hb]
theorem iZ_eq {a b : Int} (ha : -2147483648 ≤ a ∧ a < 2147483648) (hb : -2147483648 ≤ b ∧ b < 2147483648) : iZ a = iZ b ↔ a = b := by
  constructor
  · intro h
    have h2 := congrArg Int32.toInt h
    rwa [iZ_toInt ha, iZ_toInt hb] at h2
  · intro h
    rw [h]
theorem iZ_n (n : Nat) : iZ (n : Int) = nI n := Int32.ofInt_eq_ofNat
theorem iZ_cl {i : Int} (h : 0 ≤ i ∧ i < 2147483648) : (iZ i).toNatClampNeg = i.toNat := by
  show (iZ i).toInt.toNat = i.toNat
  rw [iZ_toInt ⟨by omega, h.2⟩]
theorem iZ_in {i : Int} {n : Nat} (h : 0 ≤ i ∧ i < (n : Int)) (hn : n < 2147483648) : vp_in (iZ i) n := by
  rw [vp_in_iff, iZ_toInt ⟨by omega, by omega⟩]
  exact h
theorem iZ_div {a b : Int} (ha : 0 ≤ a ∧ a < 2147483648) (hb : 0 < b ∧ b < 2147483648) : iZ a / iZ b = iZ (a / b) := by
  obtain ⟨n, rfl⟩ := Int.eq_ofNat_of_zero_le ha.1
  obtain ⟨k, rfl⟩ := Int.eq_ofNat_of_zero_le (Int.le_of_lt hb.1)
  have e : ((n : Int) / (k : Int)) = ((n / k : Nat) : Int) := (Int.natCast_ediv n k).symm
  rw [iZ_n, iZ_n, e, iZ_n]
  exact pk_div (by omega) (by omega) (by omega)
theorem iZ_rem {a b : Int} (ha : 0 ≤ a ∧ a < 2147483648) (hb : 0 < b ∧ b < 2147483648) : iZ a - iZ a / iZ b * iZ b = iZ (a % b) := by
  obtain ⟨n, rfl⟩ := Int.eq_ofNat_of_zero_le ha.1
  obtain ⟨k, rfl⟩ := Int.eq_ofNat_of_zero_le (Int.le_of_lt hb.1)
  have e : ((n : Int) % (k : Int)) = ((n % k : Nat) : Int) := (Int.natCast_emod n k).symm
  rw [iZ_n, iZ_n, e, iZ_n]
  exact pk_rem (by omega) (by omega) (by omega)
theorem iZ_ne0 {b : Int} (hb : 0 < b ∧ b < 2147483648) : ¬ iZ b = 0 := fun h => by
  have h2 : iZ b = iZ 0 := h
  have h3 := (iZ_eq ⟨by omega, hb.2⟩ ⟨by omega, by omega⟩).mp h2
  omega
/-- two to the k -/
def zp (k : Int) : Int := ((2 ^ k.toNat : Nat) : Int)
theorem iZ_shl1 {k : Int} (h : 0 ≤ k ∧ k ≤ 30) : iZ 1 <<< (iZ k &&& 31) = iZ (zp k) := by
  have q : ∀ n : Fin 31, iZ 1 <<< (iZ ((n : Nat) : Int) &&& 31) = iZ ((2 ^ (n : Nat) : Nat) : Int) := by decide +kernel
  obtain ⟨n, rfl⟩ := Int.eq_ofNat_of_zero_le h.1
  exact q ⟨n, by omega⟩
theorem iZ_shr {x k : Int} (hx : -2147483648 ≤ x ∧ x < 2147483648) (h : 0 ≤ k ∧ k ≤ 31) : iZ x >>> (iZ k &&& 31) = iZ (x / zp k) := by
  have q : ∀ n : Fin 32, ((iZ ((n : Nat) : Int) &&& 31).toBitVec.smod 32).toNat = (n : Nat) := by decide +kernel
  obtain ⟨n, rfl⟩ := Int.eq_ofNat_of_zero_le h.1
  have e := pk_shr (iZ x) (iZ (n : Int) &&& 31) n (q ⟨n, by omega⟩)
  rw [iZ_toInt hx, Int.shiftRight_eq_div_pow] at e
  have hp : (0 : Int) < ((2 ^ n : Nat) : Int) := by exact_mod_cast Nat.pos_of_ne_zero (by simp)
  have hz : zp (n : Int) = ((2 ^ n : Nat) : Int) := rfl
  apply Int32.toInt_inj.1
  rw [e, hz]
  have b1 : -2147483648 ≤ x / ((2 ^ n : Nat) : Int) := by
    rw [Int.le_ediv_iff_mul_le hp]
    have : (-2147483648 : Int) * ((2 ^ n : Nat) : Int) ≤ -2147483648 * 1 := Int.mul_le_mul_of_nonpos_left (by omega) (by omega)
    omega
  have b2 : x / ((2 ^ n : Nat) : Int) < 2147483648 := by
    rw [Int.ediv_lt_iff_lt_mul hp]
    have : (2147483648 : Int) * 1 ≤ 2147483648 * ((2 ^ n : Nat) : Int) := Int.mul_le_mul_of_nonneg_left (by omega) (by omega)
    omega
  rw [iZ_toInt ⟨b1, b2⟩]
theorem iZ_bv (x : Int) (k : Nat) (hk : k ≤ 32) : (iZ x).toBitVec.toNat % 2 ^ k = (x % ((2 ^ k : Nat) : Int)).toNat := by
  show (BitVec.ofInt 32 x).toNat % 2 ^ k = _
  rw [BitVec.toNat_ofInt]
  have hd : ((2 ^ k : Nat) : Int) ∣ ((2 ^ 32 : Nat) : Int) := by
    exact Int.natCast_dvd_natCast.mpr (Nat.pow_dvd_pow 2 hk)
  have hp : (0 : Int) < ((2 ^ k : Nat) : Int) := by exact_mod_cast Nat.pos_of_ne_zero (by simp)
  have h1 : 0 ≤ x % ((2 ^ 32 : Nat) : Int) := Int.emod_nonneg _ (by decide)
  have h2 : ((x % ((2 ^ 32 : Nat) : Int)).toNat : Int) = x % ((2 ^ 32 : Nat) : Int) := Int.toNat_of_nonneg h1
  have h3 : x % ((2 ^ 32 : Nat) : Int) % ((2 ^ k : Nat) : Int) = x % ((2 ^ k : Nat) : Int) := Int.emod_emod_of_dvd x hd
  have h4 : ((((x % ((2 ^ 32 : Nat) : Int)).toNat % 2 ^ k : Nat)) : Int) = x % ((2 ^ k : Nat) : Int) := by
    rw [Int.natCast_emod, h2, h3]
  rw [← h4]
  rfl
theorem iZ_and (x : Int) {m : Int32} (k : Nat) (hk : k ≤ 30) (hm : m.toBitVec.toNat = 2 ^ k - 1) : iZ x &&& m = iZ (x % ((2 ^ k : Nat) : Int)) := by
  rw [pk_and (iZ x) k hm, iZ_bv x k (by omega), ← iZ_n]
  have hp : (0 : Int) < ((2 ^ k : Nat) : Int) := by exact_mod_cast Nat.pos_of_ne_zero (by simp)
  rw [Int.toNat_of_nonneg (Int.emod_nonneg _ (by omega))]
theorem iZ_and1 (x : Int) : iZ x &&& iZ 1 = iZ (x % 2) := iZ_and x 1 (by omega) (by decide)
theorem iZ_and31 (x : Int) : iZ x &&& iZ 31 = iZ (x % 32) := iZ_and x 5 (by omega) (by decide)
theorem iZ_and255 (x : Int) : iZ x &&& iZ 255 = iZ (x % 256) := iZ_and x 8 (by omega) (by decide)
/-- the bits of one or the other -/
def zor (a b : Int) : Int := ((a.toNat ||| b.toNat : Nat) : Int)
theorem nI_or2 (a b : Nat) : nI a ||| nI b = nI (a ||| b) := by
  apply Int32.toBitVec_inj.1
  show BitVec.ofNat 32 a ||| BitVec.ofNat 32 b = BitVec.ofNat 32 (a ||| b)
  apply BitVec.eq_of_getLsbD_eq
  intro i hi
  simp [hi]
theorem iZ_or {a b : Int} (ha : 0 ≤ a) (hb : 0 ≤ b) : iZ a ||| iZ b = iZ (zor a b) := by
  obtain ⟨n, rfl⟩ := Int.eq_ofNat_of_zero_le ha
  obtain ⟨k, rfl⟩ := Int.eq_ofNat_of_zero_le hb
  show iZ _ ||| iZ _ = iZ (((n ||| k : Nat)) : Int)
  rw [iZ_n, iZ_n, iZ_n]
  exact nI_or2 n k
/-- a byte with its sign -/
def zsb (c : Int) : Int := if c < 128 then c else c - 256
theorem iZ_i2b {c : Int} (h : 0 ≤ c ∧ c < 256) : (iZ c).toInt8.toInt32 = iZ (zsb c) := by
  have q : ∀ n : Fin 256, (iZ ((n : Nat) : Int)).toInt8.toInt32 = iZ (zsb ((n : Nat) : Int)) := by decide +kernel
  obtain ⟨n, rfl⟩ := Int.eq_ofNat_of_zero_le h.1
  exact q ⟨n, by omega⟩
theorem iZ_nb {c : Int} (h : -128 ≤ c ∧ c < 128) : vp_nar .byte (iZ c) = iZ c := by
  rw [vp_nar_byte]
  apply Int32.toInt_inj.1
  rw [Int8.toInt_toInt32, Int32.toInt_toInt8, iZ_toInt ⟨by omega, by omega⟩, Int.bmod_eq_of_le (by omega) (by omega)]
/-! Longs. -/
def iL (z : Int) : Int64 := Int64.ofInt z
theorem iL_add (a b : Int) : iL a + iL b = iL (a + b) := (Int64.ofInt_add a b).symm
theorem iL_mul (a b : Int) : iL a * iL b = iL (a * b) := (Int64.ofInt_mul a b).symm
section ZROWS
variable {p : Program} {l : Launch} {e : Env} {R : Room} {s : State} {m : MethodId} {args : Array Value} {below : List Frame} {meth : Method} {c : Code} {H : Heap} {locs : List Loc} {cells slots : Nat} {Q : State → Prop}
variable {cc : ByteArray} {pc : Nat} {ls : Array Slot} {rest : List Value}
theorem z_top {x y : Int} (h : x = y) (k : W p l e R s m args below meth c H locs cells slots Q (F0 m pc ls (.int (iZ y) :: rest))) : W p l e R s m args below meth c H locs cells slots Q (F0 m pc ls (.int (iZ x) :: rest)) := by rw [h]; exact k
theorem z_nm {x : Int} (k : ∀ y : Int, y = x → W p l e R s m args below meth c H locs cells slots Q (F0 m pc ls (.int (iZ y) :: rest))) : W p l e R s m args below meth c H locs cells slots Q (F0 m pc ls (.int (iZ x) :: rest)) := k x rfl
theorem z_iadd (hexec : p.tables.exec = Jvm.exec) (hb : c.code = cc) {x y : Int} (hdg : decode cc pc = .ok (.iadd, 1)) (k : W p l e R s m args below meth c H locs cells slots Q (F0 m (pc + 1) ls (.int (iZ (x + y)) :: rest))) : W p l e R s m args below meth c H locs cells slots Q (F0 m pc ls (.int (iZ y) :: .int (iZ x) :: rest)) := lv_iadd hexec hb hdg (by rw [iZ_add]; exact k)
theorem z_isub (hexec : p.tables.exec = Jvm.exec) (hb : c.code = cc) {x y : Int} (hdg : decode cc pc = .ok (.isub, 1)) (k : W p l e R s m args below meth c H locs cells slots Q (F0 m (pc + 1) ls (.int (iZ (x - y)) :: rest))) : W p l e R s m args below meth c H locs cells slots Q (F0 m pc ls (.int (iZ y) :: .int (iZ x) :: rest)) := lv_isub hexec hb hdg (by rw [iZ_sub]; exact k)
theorem z_imul (hexec : p.tables.exec = Jvm.exec) (hb : c.code = cc) {x y : Int} (hdg : decode cc pc = .ok (.imul, 1)) (k : W p l e R s m args below meth c H locs cells slots Q (F0 m (pc + 1) ls (.int (iZ (x * y)) :: rest))) : W p l e R s m args below meth c H locs cells slots Q (F0 m pc ls (.int (iZ y) :: .int (iZ x) :: rest)) := lv_imul hexec hb hdg (by rw [iZ_mul]; exact k)
theorem z_ineg (hexec : p.tables.exec = Jvm.exec) (hb : c.code = cc) {x : Int} (hdg : decode cc pc = .ok (.ineg, 1)) (k : W p l e R s m args below meth c H locs cells slots Q (F0 m (pc + 1) ls (.int (iZ (-x)) :: rest))) : W p l e R s m args below meth c H locs cells slots Q (F0 m pc ls (.int (iZ x) :: rest)) := lv_ineg hexec hb hdg (by rw [iZ_neg]; exact k)
theorem z_idiv (hexec : p.tables.exec = Jvm.exec) (hb : c.code = cc) {x y : Int} (hx : 0 ≤ x ∧ x < 2147483648) (hy : 0 < y ∧ y < 2147483648) (hdg : decode cc pc = .ok (.idiv, 1)) (k : W p l e R s m args below meth c H locs cells slots Q (F0 m (pc + 1) ls (.int (iZ (x / y)) :: rest))) : W p l e R s m args below meth c H locs cells slots Q (F0 m pc ls (.int (iZ y) :: .int (iZ x) :: rest)) := lv_idiv hexec hb hdg (iZ_ne0 hy) (by rw [iZ_div hx hy]; exact k)
theorem z_irem (hexec : p.tables.exec = Jvm.exec) (hb : c.code = cc) {x y : Int} (hx : 0 ≤ x ∧ x < 2147483648) (hy : 0 < y ∧ y < 2147483648) (hdg : decode cc pc = .ok (.irem, 1)) (k : W p l e R s m args below meth c H locs cells slots Q (F0 m (pc + 1) ls (.int (iZ (x % y)) :: rest))) : W p l e R s m args below meth c H locs cells slots Q (F0 m pc ls (.int (iZ y) :: .int (iZ x) :: rest)) := lv_irem hexec hb hdg (iZ_ne0 hy) (by rw [iZ_rem hx hy]; exact k)
theorem z_ishl1 (hexec : p.tables.exec = Jvm.exec) (hb : c.code = cc) {x : Int} (hx : 0 ≤ x ∧ x ≤ 30) (hdg : decode cc pc = .ok (.ishl, 1)) (k : W p l e R s m args below meth c H locs cells slots Q (F0 m (pc + 1) ls (.int (iZ (zp x)) :: rest))) : W p l e R s m args below meth c H locs cells slots Q (F0 m pc ls (.int (iZ x) :: .int (iZ 1) :: rest)) := lv_ishl hexec hb hdg (by rw [iZ_shl1 hx]; exact k)
theorem z_ishr (hexec : p.tables.exec = Jvm.exec) (hb : c.code = cc) {x y : Int} (hx : -2147483648 ≤ x ∧ x < 2147483648) (hy : 0 ≤ y ∧ y ≤ 31) (hdg : decode cc pc = .ok (.ishr, 1)) (k : W p l e R s m args below meth c H locs cells slots Q (F0 m (pc + 1) ls (.int (iZ (x / zp y)) :: rest))) : W p l e R s m args below meth c H locs cells slots Q (F0 m pc ls (.int (iZ y) :: .int (iZ x) :: rest)) := lv_ishr hexec hb hdg (by rw [iZ_shr hx hy]; exact k)
theorem z_iand1 (hexec : p.tables.exec = Jvm.exec) (hb : c.code = cc) {x : Int} (hdg : decode cc pc = .ok (.iand, 1)) (k : W p l e R s m args below meth c H locs cells slots Q (F0 m (pc + 1) ls (.int (iZ (x % 2)) :: rest))) : W p l e R s m args below meth c H locs cells slots Q (F0 m pc ls (.int (iZ 1) :: .int (iZ x) :: rest)) := lv_iand hexec hb hdg (by rw [iZ_and1]; exact k)
theorem z_iand31 (hexec : p.tables.exec = Jvm.exec) (hb : c.code = cc) {x : Int} (hdg : decode cc pc = .ok (.iand, 1)) (k : W p l e R s m args below meth c H locs cells slots Q (F0 m (pc + 1) ls (.int (iZ (x % 32)) :: rest))) : W p l e R s m args below meth c H locs cells slots Q (F0 m pc ls (.int (iZ 31) :: .int (iZ x) :: rest)) := lv_iand hexec hb hdg (by rw [iZ_and31]; exact k)
theorem z_iand255 (hexec : p.tables.exec = Jvm.exec) (hb : c.code = cc) {x : Int} (hdg : decode cc pc = .ok (.iand, 1)) (k : W p l e R s m args below meth c H locs cells slots Q (F0 m (pc + 1) ls (.int (iZ (x % 256)) :: rest))) : W p l e R s m args below meth c H locs cells slots Q (F0 m pc ls (.int (iZ 255) :: .int (iZ x) :: rest)) := lv_iand hexec hb hdg (by rw [iZ_and255]; exact k)
theorem z_ior (hexec : p.tables.exec = Jvm.exec) (hb : c.code = cc) {x y : Int} (hx : 0 ≤ x) (hy : 0 ≤ y) (hdg : decode cc pc = .ok (.ior, 1)) (k : W p l e R s m args below meth c H locs cells slots Q (F0 m (pc + 1) ls (.int (iZ (zor x y)) :: rest))) : W p l e R s m args below meth c H locs cells slots Q (F0 m pc ls (.int (iZ y) :: .int (iZ x) :: rest)) := lv_ior hexec hb hdg (by rw [iZ_or hx hy]; exact k)
theorem z_i2b (hexec : p.tables.exec = Jvm.exec) (hb : c.code = cc) {x : Int} (hx : 0 ≤ x ∧ x < 256) (hdg : decode cc pc = .ok (.i2b, 1)) (k : W p l e R s m args below meth c H locs cells slots Q (F0 m (pc + 1) ls (.int (iZ (zsb x)) :: rest))) : W p l e R s m args below meth c H locs cells slots Q (F0 m pc ls (.int (iZ x) :: rest)) := lv_i2b hexec hb hdg (iZ_i2b hx) k
theorem z_ladd (hexec : p.tables.exec = Jvm.exec) (hb : c.code = cc) {x y : Int} (hdg : decode cc pc = .ok (.ladd, 1)) (k : W p l e R s m args below meth c H locs cells slots Q (F0 m (pc + 1) ls (.long (iL (x + y)) :: rest))) : W p l e R s m args below meth c H locs cells slots Q (F0 m pc ls (.long (iL y) :: .long (iL x) :: rest)) := lv_ladd hexec hb hdg (by rw [iL_add]; exact k)
theorem z_lmul (hexec : p.tables.exec = Jvm.exec) (hb : c.code = cc) {x y : Int} (hdg : decode cc pc = .ok (.lmul, 1)) (k : W p l e R s m args below meth c H locs cells slots Q (F0 m (pc + 1) ls (.long (iL (x * y)) :: rest))) : W p l e R s m args below meth c H locs cells slots Q (F0 m pc ls (.long (iL y) :: .long (iL x) :: rest)) := lv_lmul hexec hb hdg (by rw [iL_mul]; exact k)
theorem z_if_eq (hexec : p.tables.exec = Jvm.exec) (hb : c.code = cc) {x : Int} {off : Int} {tgt : Nat} (hx : -2147483648 ≤ x ∧ x < 2147483648) (hdg : decode cc pc = .ok (.ifCond .eq off, 3)) (ht : (pc : Int) + off = (tgt : Int)) (kt : x = 0 → W p l e R s m args below meth c H locs cells slots Q (F0 m tgt ls rest)) (kf : ¬ x = 0 → W p l e R s m args below meth c H locs cells slots Q (F0 m (pc + 3) ls rest)) : W p l e R s m args below meth c H locs cells slots Q (F0 m pc ls (.int (iZ x) :: rest)) := by
  have q : iZ x = iZ 0 ↔ x = 0 := iZ_eq hx ⟨by omega, by omega⟩
  exact lv_if_eq hexec hb hdg ht (fun h => kt (q.mp h)) (fun h => kf (fun h2 => h (q.mpr h2)))
theorem z_if_lt (hexec : p.tables.exec = Jvm.exec) (hb : c.code = cc) {x : Int} {off : Int} {tgt : Nat} (hx : -2147483648 ≤ x ∧ x < 2147483648) (hdg : decode cc pc = .ok (.ifCond .lt off, 3)) (ht : (pc : Int) + off = (tgt : Int)) (kt : x < 0 → W p l e R s m args below meth c H locs cells slots Q (F0 m tgt ls rest)) (kf : ¬ x < 0 → W p l e R s m args below meth c H locs cells slots Q (F0 m (pc + 3) ls rest)) : W p l e R s m args below meth c H locs cells slots Q (F0 m pc ls (.int (iZ x) :: rest)) := by
  have q : iZ x < iZ 0 ↔ x < 0 := iZ_lt hx ⟨by omega, by omega⟩
  exact lv_if_lt hexec hb hdg ht (fun h => kt (q.mp h)) (fun h => kf (fun h2 => h (q.mpr h2)))
theorem z_if_ge (hexec : p.tables.exec = Jvm.exec) (hb : c.code = cc) {x : Int} {off : Int} {tgt : Nat} (hx : -2147483648 ≤ x ∧ x < 2147483648) (hdg : decode cc pc = .ok (.ifCond .ge off, 3)) (ht : (pc : Int) + off = (tgt : Int)) (kt : 0 ≤ x → W p l e R s m args below meth c H locs cells slots Q (F0 m tgt ls rest)) (kf : ¬ 0 ≤ x → W p l e R s m args below meth c H locs cells slots Q (F0 m (pc + 3) ls rest)) : W p l e R s m args below meth c H locs cells slots Q (F0 m pc ls (.int (iZ x) :: rest)) := by
  have q : iZ 0 ≤ iZ x ↔ 0 ≤ x := iZ_le ⟨by omega, by omega⟩ hx
  exact lv_if_ge hexec hb hdg ht (fun h => kt (q.mp h)) (fun h => kf (fun h2 => h (q.mpr h2)))
theorem z_if_gt (hexec : p.tables.exec = Jvm.exec) (hb : c.code = cc) {x : Int} {off : Int} {tgt : Nat} (hx : -2147483648 ≤ x ∧ x < 2147483648) (hdg : decode cc pc = .ok (.ifCond .gt off, 3)) (ht : (pc : Int) + off = (tgt : Int)) (kt : 0 < x → W p l e R s m args below meth c H locs cells slots Q (F0 m tgt ls rest)) (kf : ¬ 0 < x → W p l e R s m args below meth c H locs cells slots Q (F0 m (pc + 3) ls rest)) : W p l e R s m args below meth c H locs cells slots Q (F0 m pc ls (.int (iZ x) :: rest)) := by
  have q : iZ 0 < iZ x ↔ 0 < x := iZ_lt ⟨by omega, by omega⟩ hx
  exact lv_if_gt hexec hb hdg ht (fun h => kt (q.mp h)) (fun h => kf (fun h2 => h (q.mpr h2)))
theorem z_if_le (hexec : p.tables.exec = Jvm.exec) (hb : c.code = cc) {x : Int} {off : Int} {tgt : Nat} (hx : -2147483648 ≤ x ∧ x < 2147483648) (hdg : decode cc pc = .ok (.ifCond .le off, 3)) (ht : (pc : Int) + off = (tgt : Int)) (kt : x ≤ 0 → W p l e R s m args below meth c H locs cells slots Q (F0 m tgt ls rest)) (kf : ¬ x ≤ 0 → W p l e R s m args below meth c H locs cells slots Q (F0 m (pc + 3) ls rest)) : W p l e R s m args below meth c H locs cells slots Q (F0 m pc ls (.int (iZ x) :: rest)) := by
  have q : iZ x ≤ iZ 0 ↔ x ≤ 0 := iZ_le hx ⟨by omega, by omega⟩
  exact lv_if_le hexec hb hdg ht (fun h => kt (q.mp h)) (fun h => kf (fun h2 => h (q.mpr h2)))
theorem z_if_ne (hexec : p.tables.exec = Jvm.exec) (hb : c.code = cc) {x : Int} {off : Int} {tgt : Nat} (hx : -2147483648 ≤ x ∧ x < 2147483648) (hdg : decode cc pc = .ok (.ifCond .ne off, 3)) (ht : (pc : Int) + off = (tgt : Int)) (kt : ¬ x = 0 → W p l e R s m args below meth c H locs cells slots Q (F0 m tgt ls rest)) (kf : x = 0 → W p l e R s m args below meth c H locs cells slots Q (F0 m (pc + 3) ls rest)) : W p l e R s m args below meth c H locs cells slots Q (F0 m pc ls (.int (iZ x) :: rest)) := by
  have q : iZ x = iZ 0 ↔ x = 0 := iZ_eq hx ⟨by omega, by omega⟩
  exact lv_if_ne hexec hb hdg ht (fun h => kt (fun h2 => h (q.mpr h2))) (fun h => kf (q.mp h))
theorem z_icmp_eq (hexec : p.tables.exec = Jvm.exec) (hb : c.code = cc) {x y : Int} {off : Int} {tgt : Nat} (hx : -2147483648 ≤ x ∧ x < 2147483648) (hy : -2147483648 ≤ y ∧ y < 2147483648) (hdg : decode cc pc = .ok (.if_icmp .eq off, 3)) (ht : (pc : Int) + off = (tgt : Int)) (kt : x = y → W p l e R s m args below meth c H locs cells slots Q (F0 m tgt ls rest)) (kf : ¬ x = y → W p l e R s m args below meth c H locs cells slots Q (F0 m (pc + 3) ls rest)) : W p l e R s m args below meth c H locs cells slots Q (F0 m pc ls (.int (iZ y) :: .int (iZ x) :: rest)) := by
  have q : iZ x = iZ y ↔ x = y := iZ_eq hx hy
  exact lv_icmp_eq hexec hb hdg ht (fun h => kt (q.mp h)) (fun h => kf (fun h2 => h (q.mpr h2)))
theorem z_icmp_lt (hexec : p.tables.exec = Jvm.exec) (hb : c.code = cc) {x y : Int} {off : Int} {tgt : Nat} (hx : -2147483648 ≤ x ∧ x < 2147483648) (hy : -2147483648 ≤ y ∧ y < 2147483648) (hdg : decode cc pc = .ok (.if_icmp .lt off, 3)) (ht : (pc : Int) + off = (tgt : Int)) (kt : x < y → W p l e R s m args below meth c H locs cells slots Q (F0 m tgt ls rest)) (kf : ¬ x < y → W p l e R s m args below meth c H locs cells slots Q (F0 m (pc + 3) ls rest)) : W p l e R s m args below meth c H locs cells slots Q (F0 m pc ls (.int (iZ y) :: .int (iZ x) :: rest)) := by
  have q : iZ x < iZ y ↔ x < y := iZ_lt hx hy
  exact lv_icmp_lt hexec hb hdg ht (fun h => kt (q.mp h)) (fun h => kf (fun h2 => h (q.mpr h2)))
theorem z_icmp_ge (hexec : p.tables.exec = Jvm.exec) (hb : c.code = cc) {x y : Int} {off : Int} {tgt : Nat} (hx : -2147483648 ≤ x ∧ x < 2147483648) (hy : -2147483648 ≤ y ∧ y < 2147483648) (hdg : decode cc pc = .ok (.if_icmp .ge off, 3)) (ht : (pc : Int) + off = (tgt : Int)) (kt : y ≤ x → W p l e R s m args below meth c H locs cells slots Q (F0 m tgt ls rest)) (kf : ¬ y ≤ x → W p l e R s m args below meth c H locs cells slots Q (F0 m (pc + 3) ls rest)) : W p l e R s m args below meth c H locs cells slots Q (F0 m pc ls (.int (iZ y) :: .int (iZ x) :: rest)) := by
  have q : iZ y ≤ iZ x ↔ y ≤ x := iZ_le hy hx
  exact lv_icmp_ge hexec hb hdg ht (fun h => kt (q.mp h)) (fun h => kf (fun h2 => h (q.mpr h2)))
theorem z_icmp_gt (hexec : p.tables.exec = Jvm.exec) (hb : c.code = cc) {x y : Int} {off : Int} {tgt : Nat} (hx : -2147483648 ≤ x ∧ x < 2147483648) (hy : -2147483648 ≤ y ∧ y < 2147483648) (hdg : decode cc pc = .ok (.if_icmp .gt off, 3)) (ht : (pc : Int) + off = (tgt : Int)) (kt : y < x → W p l e R s m args below meth c H locs cells slots Q (F0 m tgt ls rest)) (kf : ¬ y < x → W p l e R s m args below meth c H locs cells slots Q (F0 m (pc + 3) ls rest)) : W p l e R s m args below meth c H locs cells slots Q (F0 m pc ls (.int (iZ y) :: .int (iZ x) :: rest)) := by
  have q : iZ y < iZ x ↔ y < x := iZ_lt hy hx
  exact lv_icmp_gt hexec hb hdg ht (fun h => kt (q.mp h)) (fun h => kf (fun h2 => h (q.mpr h2)))
theorem z_icmp_le (hexec : p.tables.exec = Jvm.exec) (hb : c.code = cc) {x y : Int} {off : Int} {tgt : Nat} (hx : -2147483648 ≤ x ∧ x < 2147483648) (hy : -2147483648 ≤ y ∧ y < 2147483648) (hdg : decode cc pc = .ok (.if_icmp .le off, 3)) (ht : (pc : Int) + off = (tgt : Int)) (kt : x ≤ y → W p l e R s m args below meth c H locs cells slots Q (F0 m tgt ls rest)) (kf : ¬ x ≤ y → W p l e R s m args below meth c H locs cells slots Q (F0 m (pc + 3) ls rest)) : W p l e R s m args below meth c H locs cells slots Q (F0 m pc ls (.int (iZ y) :: .int (iZ x) :: rest)) := by
  have q : iZ x ≤ iZ y ↔ x ≤ y := iZ_le hx hy
  exact lv_icmp_le hexec hb hdg ht (fun h => kt (q.mp h)) (fun h => kf (fun h2 => h (q.mpr h2)))
theorem z_icmp_ne (hexec : p.tables.exec = Jvm.exec) (hb : c.code = cc) {x y : Int} {off : Int} {tgt : Nat} (hx : -2147483648 ≤ x ∧ x < 2147483648) (hy : -2147483648 ≤ y ∧ y < 2147483648) (hdg : decode cc pc = .ok (.if_icmp .ne off, 3)) (ht : (pc : Int) + off = (tgt : Int)) (kt : ¬ x = y → W p l e R s m args below meth c H locs cells slots Q (F0 m tgt ls rest)) (kf : x = y → W p l e R s m args below meth c H locs cells slots Q (F0 m (pc + 3) ls rest)) : W p l e R s m args below meth c H locs cells slots Q (F0 m pc ls (.int (iZ y) :: .int (iZ x) :: rest)) := by
  have q : iZ x = iZ y ↔ x = y := iZ_eq hx hy
  exact lv_icmp_ne hexec hb hdg ht (fun h => kt (fun h2 => h (q.mpr h2))) (fun h => kf (q.mp h))
/-- a truth on the stack -/
theorem z_ifb_eq (hexec : p.tables.exec = Jvm.exec) (hb : c.code = cc) {P : Prop} {ip : Decidable P} {off : Int} {tgt : Nat} (hdg : decode cc pc = .ok (.ifCond .eq off, 3)) (ht : (pc : Int) + off = (tgt : Int)) (kt : ¬ P → W p l e R s m args below meth c H locs cells slots Q (F0 m tgt ls rest)) (kf : P → W p l e R s m args below meth c H locs cells slots Q (F0 m (pc + 3) ls rest)) : W p l e R s m args below meth c H locs cells slots Q (F0 m pc ls (.int (iZ (if P then 1 else 0)) :: rest)) := by
  refine z_if_eq hexec hb (by split <;> omega) hdg ht (fun h => kt (fun hp => ?_)) (fun h => kf ?_)
  · rw [if_pos hp] at h; omega
  · by_cases hp : P
    · exact hp
    · rw [if_neg hp] at h; exact absurd rfl h
theorem z_ifb_ne (hexec : p.tables.exec = Jvm.exec) (hb : c.code = cc) {P : Prop} {ip : Decidable P} {off : Int} {tgt : Nat} (hdg : decode cc pc = .ok (.ifCond .ne off, 3)) (ht : (pc : Int) + off = (tgt : Int)) (kt : P → W p l e R s m args below meth c H locs cells slots Q (F0 m tgt ls rest)) (kf : ¬ P → W p l e R s m args below meth c H locs cells slots Q (F0 m (pc + 3) ls rest)) : W p l e R s m args below meth c H locs cells slots Q (F0 m pc ls (.int (iZ (if P then 1 else 0)) :: rest)) := by
  refine z_if_ne hexec hb (by split <;> omega) hdg ht (fun h => kt ?_) (fun h => kf (fun hp => ?_))
  · by_cases hp : P
    · exact hp
    · rw [if_neg hp] at h; exact absurd rfl h
  · rw [if_pos hp] at h; omega
theorem z_nbool {v : Int} (h : v = 0 ∨ v = 1) : narrow .boolean (.int (iZ v)) = .int (iZ v) := by rcases h with rfl | rfl <;> decide +kernel
theorem z_fbool {v : Int} (h : v = 0 ∨ v = 1) : fits .boolean (.int (iZ v)) = true := by rcases h with rfl | rfl <;> decide +kernel
theorem z_ldc (hexec : p.tables.exec = Jvm.exec) (hb : c.code = cc) {own : String} {index : Nat} {n : Int} {v : Int32} (hown : s.vm.findClass own = some m.cls) (hconst : (Jvm.Cond.constant own index v).before args s = true) (hv : v = iZ n) (hdg : decode cc pc = .ok (.ldc index, 2)) (k : W p l e R s m args below meth c H locs cells slots Q (F0 m (pc + 2) ls (.int (iZ n) :: rest))) : W p l e R s m args below meth c H locs cells slots Q (F0 m pc ls rest) := lv_ldc hexec hb hown hconst hdg (by rw [hv]; exact k)
theorem z_ldc2_w (hexec : p.tables.exec = Jvm.exec) (hb : c.code = cc) {own : String} {index : Nat} {n : Int} {v : Int64} (hown : s.vm.findClass own = some m.cls) (hconst : (Jvm.Cond.constantLong own index v).before args s = true) (hv : v = iL n) (hdg : decode cc pc = .ok (.ldc2_w index, 3)) (k : W p l e R s m args below meth c H locs cells slots Q (F0 m (pc + 3) ls (.long (iL n) :: rest))) : W p l e R s m args below meth c H locs cells slots Q (F0 m pc ls rest) := lv_ldc2 hexec hb hown hconst hdg (by rw [hv]; exact k)
end ZROWS
/-- a loop whose heap stays -/
theorem z_loop {σ : Type} {G : Array Slot → Prop} (I : σ → Prop) (lv : σ → List (Nat × Value)) (nL : Nat) (μ : σ → Nat) (x0 : σ) (h0 : I x0) (step : ∀ x : σ, I x → (∀ y : σ, I y → μ y < μ x → ∀ ls : Array Slot, lv_has ls nL (lv y) → G ls) → ∀ ls : Array Slot, lv_has ls nL (lv x) → G ls) : ∀ ls : Array Slot, lv_has ls nL (lv x0) → G ls := by
  have K : ∀ (n : Nat) (x : σ), I x → μ x < n → ∀ ls : Array Slot, lv_has ls nL (lv x) → G ls := by
    intro n
    induction n with
    | zero => intro x _ h; exact absurd h (Nat.not_lt_zero _)
    | succ n ih => intro x hx hn; exact step x hx (fun y hy hlt => ih y hy (by omega))
  exact K (μ x0 + 1) x0 h0 (Nat.lt_succ_self _)
/-- a loop that changes the heap -/
theorem z_loopH {σ : Type} {G : Heap → List Loc → Array Slot → Prop} (I : σ → Prop) (B : σ → Heap → List Loc → Prop) (lv : σ → List (Nat × Value)) (nL : Nat) (μ : σ → Nat) (x0 : σ) (h0 : I x0) (step : ∀ x : σ, I x → (∀ y : σ, I y → μ y < μ x → ∀ (H : Heap) (locs : List Loc), B y H locs → ∀ ls : Array Slot, lv_has ls nL (lv y) → G H locs ls) → ∀ (H : Heap) (locs : List Loc), B x H locs → ∀ ls : Array Slot, lv_has ls nL (lv x) → G H locs ls) : ∀ (H : Heap) (locs : List Loc), B x0 H locs → ∀ ls : Array Slot, lv_has ls nL (lv x0) → G H locs ls := by
  have K : ∀ (n : Nat) (x : σ), I x → μ x < n → ∀ (H : Heap) (locs : List Loc), B x H locs → ∀ ls : Array Slot, lv_has ls nL (lv x) → G H locs ls := by
    intro n
    induction n with
    | zero => intro x _ h; exact absurd h (Nat.not_lt_zero _)
    | succ n ih => intro x hx hn; exact step x hx (fun y hy hlt => ih y hy (by omega))
  exact K (μ x0 + 1) x0 h0 (Nat.lt_succ_self _)
