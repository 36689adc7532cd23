/-! Items. -/
def f_ipA (M : Nat → Nat → Int) : Nat → Nat → Int := mU (f_num M 0 30) 3 (Int.toNat (6 + M 2 1)) (M 15 0)
def f_ipB (K : Nat → Nat → Int) : Nat → Nat → Int := mU (f_num K 0 5) 4 (Int.toNat (6 + K 2 1)) (K 15 0)
def f_ipC (K : Nat → Nat → Int) : Nat → Nat → Int := mU K 2 1 (K 2 1 + 1)
def f_itp (M : Nat → Nat → Int) : Nat → Nat → Int := f_ipC (f_ipB (f_ipA M))
def f_isA (K : Nat → Nat → Int) (s : Int) : Nat → Nat → Int := mU (f_num K 1 9) 6 (Int.toNat s) (K 15 0)
def f_isB (K : Nat → Nat → Int) (s : Int) : Nat → Nat → Int := mU (f_num K 0 3) 7 (Int.toNat s) (K 15 0)
def f_isC (K : Nat → Nat → Int) (s : Int) : Nat → Nat → Int := mU (f_num K 0 (K 2 1 - 1)) 8 (Int.toNat s) (K 15 0)
def f_isD (K : Nat → Nat → Int) : Nat → Nat → Int := mU K 5 1 (K 5 1 + 1)
def f_its (M : Nat → Nat → Int) : Nat → Nat → Int := f_isD (f_isC (f_isB (f_isA M (6 + M 5 1)) (6 + M 5 1)) (6 + M 5 1))
def f_itf (M : Nat → Nat → Int) : Nat → Nat → Int := if f_num (f_num M 0 3) 0 20 16 0 = 0 then mU (f_num (f_num M 0 3) 0 20) 11 (Int.toNat (M 15 0)) (f_num M 0 3 15 0) else f_num (f_num M 0 3) 0 20
def f_item (M : Nat → Nat → Int) (wd : Int) : Nat → Nat → Int := if wd = 112 then f_itp M else if wd = 115 then f_its M else if wd = 119 then f_blow M else f_itf M
