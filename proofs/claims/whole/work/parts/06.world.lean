abbrev ZCT : Type := (Int32) × (Nat → Int32) × (Nat → Int32) × (Nat → Int32) × (Nat → Nat → Int32) × (Nat → Int32)
abbrev ZCM : Type := (Int32) × (Nat → Int32) × (Nat → Int32) × (Nat → Int32) × (Nat → Int64) × (Nat → Int32)
abbrev ZCH : Type := (Int32) × (Int32) × (Int32) × (Nat → Int32) × (Nat → Int32) × (Nat → Int32)
abbrev ZCK : Type := (Int32) × (Nat → Int32) × (Nat → Int32) × (Nat → Int32) × (Nat → Int64) × (Nat → Int32)
abbrev ZCX : Type := (Int32) × (Int32)
abbrev ZC : Type := ZCT × ZCM × ZCH × ZCK × ZCX
abbrev tTo (S : ZC) : Int32 := S.1.1
abbrev tTo' (S : ZC) (x : Int32) : ZC := ((x, S.1.2.1, S.1.2.2.1, S.1.2.2.2.1, S.1.2.2.2.2.1, S.1.2.2.2.2.2), S.2.1, S.2.2.1, S.2.2.2.1, S.2.2.2.2)
abbrev tFm (S : ZC) : Nat → Int32 := S.1.2.1
abbrev tFm' (S : ZC) (x : Nat → Int32) : ZC := ((S.1.1, x, S.1.2.2.1, S.1.2.2.2.1, S.1.2.2.2.2.1, S.1.2.2.2.2.2), S.2.1, S.2.2.1, S.2.2.2.1, S.2.2.2.2)
abbrev tCa (S : ZC) : Nat → Int32 := S.1.2.2.1
abbrev tCa' (S : ZC) (x : Nat → Int32) : ZC := ((S.1.1, S.1.2.1, x, S.1.2.2.2.1, S.1.2.2.2.2.1, S.1.2.2.2.2.2), S.2.1, S.2.2.1, S.2.2.2.1, S.2.2.2.2)
abbrev tFc (S : ZC) : Nat → Int32 := S.1.2.2.2.1
abbrev tFc' (S : ZC) (x : Nat → Int32) : ZC := ((S.1.1, S.1.2.1, S.1.2.2.1, x, S.1.2.2.2.2.1, S.1.2.2.2.2.2), S.2.1, S.2.2.1, S.2.2.2.1, S.2.2.2.2)
abbrev tGr (S : ZC) : Nat → Nat → Int32 := S.1.2.2.2.2.1
abbrev tGr' (S : ZC) (x : Nat → Nat → Int32) : ZC := ((S.1.1, S.1.2.1, S.1.2.2.1, S.1.2.2.2.1, x, S.1.2.2.2.2.2), S.2.1, S.2.2.1, S.2.2.2.1, S.2.2.2.2)
abbrev tUp (S : ZC) : Nat → Int32 := S.1.2.2.2.2.2
abbrev tUp' (S : ZC) (x : Nat → Int32) : ZC := ((S.1.1, S.1.2.1, S.1.2.2.1, S.1.2.2.2.1, S.1.2.2.2.2.1, x), S.2.1, S.2.2.1, S.2.2.2.1, S.2.2.2.2)
abbrev mTo (S : ZC) : Int32 := S.2.1.1
abbrev mTo' (S : ZC) (x : Int32) : ZC := (S.1, (x, S.2.1.2.1, S.2.1.2.2.1, S.2.1.2.2.2.1, S.2.1.2.2.2.2.1, S.2.1.2.2.2.2.2), S.2.2.1, S.2.2.2.1, S.2.2.2.2)
abbrev mOw (S : ZC) : Nat → Int32 := S.2.1.2.1
abbrev mOw' (S : ZC) (x : Nat → Int32) : ZC := (S.1, (S.2.1.1, x, S.2.1.2.2.1, S.2.1.2.2.2.1, S.2.1.2.2.2.2.1, S.2.1.2.2.2.2.2), S.2.2.1, S.2.2.2.1, S.2.2.2.2)
abbrev mNa (S : ZC) : Nat → Int32 := S.2.1.2.2.1
abbrev mNa' (S : ZC) (x : Nat → Int32) : ZC := (S.1, (S.2.1.1, S.2.1.2.1, x, S.2.1.2.2.2.1, S.2.1.2.2.2.2.1, S.2.1.2.2.2.2.2), S.2.2.1, S.2.2.2.1, S.2.2.2.2)
abbrev mSz (S : ZC) : Nat → Int32 := S.2.1.2.2.2.1
abbrev mSz' (S : ZC) (x : Nat → Int32) : ZC := (S.1, (S.2.1.1, S.2.1.2.1, S.2.1.2.2.1, x, S.2.1.2.2.2.2.1, S.2.1.2.2.2.2.2), S.2.2.1, S.2.2.2.1, S.2.2.2.2)
abbrev mPa (S : ZC) : Nat → Int64 := S.2.1.2.2.2.2.1
abbrev mPa' (S : ZC) (x : Nat → Int64) : ZC := (S.1, (S.2.1.1, S.2.1.2.1, S.2.1.2.2.1, S.2.1.2.2.2.1, x, S.2.1.2.2.2.2.2), S.2.2.1, S.2.2.2.1, S.2.2.2.2)
abbrev mVa (S : ZC) : Nat → Int32 := S.2.1.2.2.2.2.2
abbrev mVa' (S : ZC) (x : Nat → Int32) : ZC := (S.1, (S.2.1.1, S.2.1.2.1, S.2.1.2.2.1, S.2.1.2.2.2.1, S.2.1.2.2.2.2.1, x), S.2.2.1, S.2.2.2.1, S.2.2.2.2)
abbrev hMc (S : ZC) : Int32 := S.2.2.1.1
abbrev hMc' (S : ZC) (x : Int32) : ZC := (S.1, S.2.1, (x, S.2.2.1.2.1, S.2.2.1.2.2.1, S.2.2.1.2.2.2.1, S.2.2.1.2.2.2.2.1, S.2.2.1.2.2.2.2.2), S.2.2.2.1, S.2.2.2.2)
abbrev hFc (S : ZC) : Int32 := S.2.2.1.2.1
abbrev hFc' (S : ZC) (x : Int32) : ZC := (S.1, S.2.1, (S.2.2.1.1, x, S.2.2.1.2.2.1, S.2.2.1.2.2.2.1, S.2.2.1.2.2.2.2.1, S.2.2.1.2.2.2.2.2), S.2.2.2.1, S.2.2.2.2)
abbrev hPh (S : ZC) : Int32 := S.2.2.1.2.2.1
abbrev hPh' (S : ZC) (x : Int32) : ZC := (S.1, S.2.1, (S.2.2.1.1, S.2.2.1.2.1, x, S.2.2.1.2.2.2.1, S.2.2.1.2.2.2.2.1, S.2.2.1.2.2.2.2.2), S.2.2.2.1, S.2.2.2.2)
abbrev hLi (S : ZC) : Nat → Int32 := S.2.2.1.2.2.2.1
abbrev hLi' (S : ZC) (x : Nat → Int32) : ZC := (S.1, S.2.1, (S.2.2.1.1, S.2.2.1.2.1, S.2.2.1.2.2.1, x, S.2.2.1.2.2.2.2.1, S.2.2.1.2.2.2.2.2), S.2.2.2.1, S.2.2.2.2)
abbrev hMe (S : ZC) : Nat → Int32 := S.2.2.1.2.2.2.2.1
abbrev hMe' (S : ZC) (x : Nat → Int32) : ZC := (S.1, S.2.1, (S.2.2.1.1, S.2.2.1.2.1, S.2.2.1.2.2.1, S.2.2.1.2.2.2.1, x, S.2.2.1.2.2.2.2.2), S.2.2.2.1, S.2.2.2.2)
abbrev hFi (S : ZC) : Nat → Int32 := S.2.2.1.2.2.2.2.2
abbrev hFi' (S : ZC) (x : Nat → Int32) : ZC := (S.1, S.2.1, (S.2.2.1.1, S.2.2.1.2.1, S.2.2.1.2.2.1, S.2.2.1.2.2.2.1, S.2.2.1.2.2.2.2.1, x), S.2.2.2.1, S.2.2.2.2)
abbrev kHe (S : ZC) : Int32 := S.2.2.2.1.1
abbrev kHe' (S : ZC) (x : Int32) : ZC := (S.1, S.2.1, S.2.2.1, (x, S.2.2.2.1.2.1, S.2.2.2.1.2.2.1, S.2.2.2.1.2.2.2.1, S.2.2.2.1.2.2.2.2.1, S.2.2.2.1.2.2.2.2.2), S.2.2.2.2)
abbrev kTy (S : ZC) : Nat → Int32 := S.2.2.2.1.2.1
abbrev kTy' (S : ZC) (x : Nat → Int32) : ZC := (S.1, S.2.1, S.2.2.1, (S.2.2.2.1.1, x, S.2.2.2.1.2.2.1, S.2.2.2.1.2.2.2.1, S.2.2.2.1.2.2.2.2.1, S.2.2.2.1.2.2.2.2.2), S.2.2.2.2)
abbrev kNa (S : ZC) : Nat → Int32 := S.2.2.2.1.2.2.1
abbrev kNa' (S : ZC) (x : Nat → Int32) : ZC := (S.1, S.2.1, S.2.2.1, (S.2.2.2.1.1, S.2.2.2.1.2.1, x, S.2.2.2.1.2.2.2.1, S.2.2.2.1.2.2.2.2.1, S.2.2.2.1.2.2.2.2.2), S.2.2.2.2)
abbrev kSz (S : ZC) : Nat → Int32 := S.2.2.2.1.2.2.2.1
abbrev kSz' (S : ZC) (x : Nat → Int32) : ZC := (S.1, S.2.1, S.2.2.1, (S.2.2.2.1.1, S.2.2.2.1.2.1, S.2.2.2.1.2.2.1, x, S.2.2.2.1.2.2.2.2.1, S.2.2.2.1.2.2.2.2.2), S.2.2.2.2)
abbrev kCl (S : ZC) : Nat → Int64 := S.2.2.2.1.2.2.2.2.1
abbrev kCl' (S : ZC) (x : Nat → Int64) : ZC := (S.1, S.2.1, S.2.2.1, (S.2.2.2.1.1, S.2.2.2.1.2.1, S.2.2.2.1.2.2.1, S.2.2.2.1.2.2.2.1, x, S.2.2.2.1.2.2.2.2.2), S.2.2.2.2)
abbrev kOu (S : ZC) : Nat → Int32 := S.2.2.2.1.2.2.2.2.2
abbrev kOu' (S : ZC) (x : Nat → Int32) : ZC := (S.1, S.2.1, S.2.2.1, (S.2.2.2.1.1, S.2.2.2.1.2.1, S.2.2.2.1.2.2.1, S.2.2.2.1.2.2.2.1, S.2.2.2.1.2.2.2.2.1, x), S.2.2.2.2)
abbrev xWk (S : ZC) : Int32 := S.2.2.2.2.1
abbrev xWk' (S : ZC) (x : Int32) : ZC := (S.1, S.2.1, S.2.2.1, S.2.2.2.1, (x, S.2.2.2.2.2))
abbrev xFk (S : ZC) : Int32 := S.2.2.2.2.2
abbrev xFk' (S : ZC) (x : Int32) : ZC := (S.1, S.2.1, S.2.2.1, S.2.2.2.1, (S.2.2.2.2.1, x))
def cw (z : zE) (A : Nat → Nat) (S : ZC) : va_W := [((A 0), .inr (0, [.ref (A 17), .ref (A 11), .ref (A 7), .ref (A 1), .int (xWk S), .int (xFk S)])),
  ((A 1), .inr (4, [.ref (A 2), .ref (A 3), .ref (A 4), .ref (A 5), .ref (A 6), .int (kHe S)])),
  ((A 2), .inl (zI z, 100, .inl (kTy S))),
  ((A 3), .inl (zI z, 100, .inl (kNa S))),
  ((A 4), .inl (zI z, 100, .inl (kSz S))),
  ((A 5), .inl (zL z, 100, .inr (.inl (kCl S)))),
  ((A 6), .inl (zI z, 100, .inl (kOu S))),
  ((A 7), .inr (3, [.ref (A 17), .ref (A 11), .ref (A 8), .ref (A 9), .ref (A 10), .int (hMc S), .int (hFc S), .int (hPh S)])),
  ((A 8), .inl (zI z, 24, .inl (hLi S))),
  ((A 9), .inl (zI z, 80, .inl (hMe S))),
  ((A 10), .inl (zI z, 80, .inl (hFi S))),
  ((A 11), .inr (2, [.ref (A 12), .ref (A 13), .ref (A 14), .ref (A 15), .ref (A 16), .int (mTo S)])),
  ((A 12), .inl (zI z, 80, .inl (mOw S))),
  ((A 13), .inl (zI z, 80, .inl (mNa S))),
  ((A 14), .inl (zI z, 80, .inl (mSz S))),
  ((A 15), .inl (zL z, 80, .inr (.inl (mPa S)))),
  ((A 16), .inl (zZ z, 80, .inl (mVa S))),
  ((A 17), .inr (1, [.ref (A 18), .ref (A 19), .ref (A 20), .ref (A 21), .ref (A 22), .int (tTo S)])),
  ((A 18), .inl (zZ z, 32, .inl (tFm S))),
  ((A 19), .inl (zI z, 32, .inl (tCa S))),
  ((A 20), .inl (zI z, 32, .inl (tFc S))),
  ((A 21), .inl (zG z, 32, .inr (.inr (.inr (.inr (fun i => some (A (23 + i)))))))),
  ((A 22), .inl (zI z, 32, .inl (tUp S)))] ++ (List.range 32).map (fun i => (A (23 + i), .inl (zI z, 24, .inl (tGr S i))))
abbrev ZQI : Type := (Int32) × (Int32) × (Int32) × (Int32) × (Int32) × (Int32) × (Int32) × (Int32) × (Int32)
abbrev ZQT : Type := (Nat → Int32) × (Nat → Int32) × (Nat → Int32) × (Nat → Int32)
abbrev ZQP : Type := (Nat → Int32) × (Nat → Int32) × (Nat → Int32) × (Nat → Int32) × (Nat → Int32)
abbrev ZQK : Type := (Nat → Int32) × (Nat → Int32) × (Nat → Int32) × (Nat → Int64) × (Nat → Int32)
abbrev ZQL : Type := (Nat → Int32) × (Nat → Int32) × (Nat → Int32) × (Nat → Int32) × (Nat → Int32)
abbrev ZQ : Type := ZQI × ZQT × ZQP × ZQK × ZQL
abbrev qTh (S : ZQ) : Int32 := S.1.1
abbrev qTh' (S : ZQ) (x : Int32) : ZQ := ((x, S.1.2.1, S.1.2.2.1, S.1.2.2.2.1, S.1.2.2.2.2.1, S.1.2.2.2.2.2.1, S.1.2.2.2.2.2.2.1, S.1.2.2.2.2.2.2.2.1, S.1.2.2.2.2.2.2.2.2), S.2.1, S.2.2.1, S.2.2.2.1, S.2.2.2.2)
abbrev qTy (S : ZQ) : Int32 := S.1.2.1
abbrev qTy' (S : ZQ) (x : Int32) : ZQ := ((S.1.1, x, S.1.2.2.1, S.1.2.2.2.1, S.1.2.2.2.2.1, S.1.2.2.2.2.2.1, S.1.2.2.2.2.2.2.1, S.1.2.2.2.2.2.2.2.1, S.1.2.2.2.2.2.2.2.2), S.2.1, S.2.2.1, S.2.2.2.1, S.2.2.2.2)
abbrev qMe (S : ZQ) : Int32 := S.1.2.2.1
abbrev qMe' (S : ZQ) (x : Int32) : ZQ := ((S.1.1, S.1.2.1, x, S.1.2.2.2.1, S.1.2.2.2.2.1, S.1.2.2.2.2.2.1, S.1.2.2.2.2.2.2.1, S.1.2.2.2.2.2.2.2.1, S.1.2.2.2.2.2.2.2.2), S.2.1, S.2.2.1, S.2.2.2.1, S.2.2.2.2)
abbrev qKe (S : ZQ) : Int32 := S.1.2.2.2.1
abbrev qKe' (S : ZQ) (x : Int32) : ZQ := ((S.1.1, S.1.2.1, S.1.2.2.1, x, S.1.2.2.2.2.1, S.1.2.2.2.2.2.1, S.1.2.2.2.2.2.2.1, S.1.2.2.2.2.2.2.2.1, S.1.2.2.2.2.2.2.2.2), S.2.1, S.2.2.1, S.2.2.2.1, S.2.2.2.2)
abbrev qWo (S : ZQ) : Int32 := S.1.2.2.2.2.1
abbrev qWo' (S : ZQ) (x : Int32) : ZQ := ((S.1.1, S.1.2.1, S.1.2.2.1, S.1.2.2.2.1, x, S.1.2.2.2.2.2.1, S.1.2.2.2.2.2.2.1, S.1.2.2.2.2.2.2.2.1, S.1.2.2.2.2.2.2.2.2), S.2.1, S.2.2.1, S.2.2.2.1, S.2.2.2.2)
abbrev qHa (S : ZQ) : Int32 := S.1.2.2.2.2.2.1
abbrev qHa' (S : ZQ) (x : Int32) : ZQ := ((S.1.1, S.1.2.1, S.1.2.2.1, S.1.2.2.2.1, S.1.2.2.2.2.1, x, S.1.2.2.2.2.2.2.1, S.1.2.2.2.2.2.2.2.1, S.1.2.2.2.2.2.2.2.2), S.2.1, S.2.2.1, S.2.2.2.1, S.2.2.2.2)
abbrev qPh (S : ZQ) : Int32 := S.1.2.2.2.2.2.2.1
abbrev qPh' (S : ZQ) (x : Int32) : ZQ := ((S.1.1, S.1.2.1, S.1.2.2.1, S.1.2.2.2.1, S.1.2.2.2.2.1, S.1.2.2.2.2.2.1, x, S.1.2.2.2.2.2.2.2.1, S.1.2.2.2.2.2.2.2.2), S.2.1, S.2.2.1, S.2.2.2.1, S.2.2.2.2)
abbrev qLm (S : ZQ) : Int32 := S.1.2.2.2.2.2.2.2.1
abbrev qLm' (S : ZQ) (x : Int32) : ZQ := ((S.1.1, S.1.2.1, S.1.2.2.1, S.1.2.2.2.1, S.1.2.2.2.2.1, S.1.2.2.2.2.2.1, S.1.2.2.2.2.2.2.1, x, S.1.2.2.2.2.2.2.2.2), S.2.1, S.2.2.1, S.2.2.2.1, S.2.2.2.2)
abbrev qMm (S : ZQ) : Int32 := S.1.2.2.2.2.2.2.2.2
abbrev qMm' (S : ZQ) (x : Int32) : ZQ := ((S.1.1, S.1.2.1, S.1.2.2.1, S.1.2.2.2.1, S.1.2.2.2.2.1, S.1.2.2.2.2.2.1, S.1.2.2.2.2.2.2.1, S.1.2.2.2.2.2.2.2.1, x), S.2.1, S.2.2.1, S.2.2.2.1, S.2.2.2.2)
abbrev qIf (S : ZQ) : Nat → Int32 := S.2.1.1
abbrev qIf' (S : ZQ) (x : Nat → Int32) : ZQ := (S.1, (x, S.2.1.2.1, S.2.1.2.2.1, S.2.1.2.2.2), S.2.2.1, S.2.2.2.1, S.2.2.2.2)
abbrev qAb (S : ZQ) : Nat → Int32 := S.2.1.2.1
abbrev qAb' (S : ZQ) (x : Nat → Int32) : ZQ := (S.1, (S.2.1.1, x, S.2.1.2.2.1, S.2.1.2.2.2), S.2.2.1, S.2.2.2.1, S.2.2.2.2)
abbrev qFm (S : ZQ) : Nat → Int32 := S.2.1.2.2.1
abbrev qFm' (S : ZQ) (x : Nat → Int32) : ZQ := (S.1, (S.2.1.1, S.2.1.2.1, x, S.2.1.2.2.2), S.2.2.1, S.2.2.2.1, S.2.2.2.2)
abbrev qFa (S : ZQ) : Nat → Int32 := S.2.1.2.2.2
abbrev qFa' (S : ZQ) (x : Nat → Int32) : ZQ := (S.1, (S.2.1.1, S.2.1.2.1, S.2.1.2.2.1, x), S.2.2.1, S.2.2.2.1, S.2.2.2.2)
abbrev qOw (S : ZQ) : Nat → Int32 := S.2.2.1.1
abbrev qOw' (S : ZQ) (x : Nat → Int32) : ZQ := (S.1, S.2.1, (x, S.2.2.1.2.1, S.2.2.1.2.2.1, S.2.2.1.2.2.2.1, S.2.2.1.2.2.2.2), S.2.2.2.1, S.2.2.2.2)
abbrev qNa (S : ZQ) : Nat → Int32 := S.2.2.1.2.1
abbrev qNa' (S : ZQ) (x : Nat → Int32) : ZQ := (S.1, S.2.1, (S.2.2.1.1, x, S.2.2.1.2.2.1, S.2.2.1.2.2.2.1, S.2.2.1.2.2.2.2), S.2.2.2.1, S.2.2.2.2)
abbrev qMa (S : ZQ) : Nat → Int32 := S.2.2.1.2.2.1
abbrev qMa' (S : ZQ) (x : Nat → Int32) : ZQ := (S.1, S.2.1, (S.2.2.1.1, S.2.2.1.2.1, x, S.2.2.1.2.2.2.1, S.2.2.1.2.2.2.2), S.2.2.2.1, S.2.2.2.2)
abbrev qPa (S : ZQ) : Nat → Int32 := S.2.2.1.2.2.2.1
abbrev qPa' (S : ZQ) (x : Nat → Int32) : ZQ := (S.1, S.2.1, (S.2.2.1.1, S.2.2.1.2.1, S.2.2.1.2.2.1, x, S.2.2.1.2.2.2.2), S.2.2.2.1, S.2.2.2.2)
abbrev qVa (S : ZQ) : Nat → Int32 := S.2.2.1.2.2.2.2
abbrev qVa' (S : ZQ) (x : Nat → Int32) : ZQ := (S.1, S.2.1, (S.2.2.1.1, S.2.2.1.2.1, S.2.2.1.2.2.1, S.2.2.1.2.2.2.1, x), S.2.2.2.1, S.2.2.2.2)
abbrev qKt (S : ZQ) : Nat → Int32 := S.2.2.2.1.1
abbrev qKt' (S : ZQ) (x : Nat → Int32) : ZQ := (S.1, S.2.1, S.2.2.1, (x, S.2.2.2.1.2.1, S.2.2.2.1.2.2.1, S.2.2.2.1.2.2.2.1, S.2.2.2.1.2.2.2.2), S.2.2.2.2)
abbrev qKn (S : ZQ) : Nat → Int32 := S.2.2.2.1.2.1
abbrev qKn' (S : ZQ) (x : Nat → Int32) : ZQ := (S.1, S.2.1, S.2.2.1, (S.2.2.2.1.1, x, S.2.2.2.1.2.2.1, S.2.2.2.1.2.2.2.1, S.2.2.2.1.2.2.2.2), S.2.2.2.2)
abbrev qKm (S : ZQ) : Nat → Int32 := S.2.2.2.1.2.2.1
abbrev qKm' (S : ZQ) (x : Nat → Int32) : ZQ := (S.1, S.2.1, S.2.2.1, (S.2.2.2.1.1, S.2.2.2.1.2.1, x, S.2.2.2.1.2.2.2.1, S.2.2.2.1.2.2.2.2), S.2.2.2.2)
abbrev qKc (S : ZQ) : Nat → Int64 := S.2.2.2.1.2.2.2.1
abbrev qKc' (S : ZQ) (x : Nat → Int64) : ZQ := (S.1, S.2.1, S.2.2.1, (S.2.2.2.1.1, S.2.2.2.1.2.1, S.2.2.2.1.2.2.1, x, S.2.2.2.1.2.2.2.2), S.2.2.2.2)
abbrev qKa (S : ZQ) : Nat → Int32 := S.2.2.2.1.2.2.2.2
abbrev qKa' (S : ZQ) (x : Nat → Int32) : ZQ := (S.1, S.2.1, S.2.2.1, (S.2.2.2.1.1, S.2.2.2.1.2.1, S.2.2.2.1.2.2.1, S.2.2.2.1.2.2.2.1, x), S.2.2.2.2)
abbrev qLi (S : ZQ) : Nat → Int32 := S.2.2.2.2.1
abbrev qLi' (S : ZQ) (x : Nat → Int32) : ZQ := (S.1, S.2.1, S.2.2.1, S.2.2.2.1, (x, S.2.2.2.2.2.1, S.2.2.2.2.2.2.1, S.2.2.2.2.2.2.2.1, S.2.2.2.2.2.2.2.2))
abbrev qMt (S : ZQ) : Nat → Int32 := S.2.2.2.2.2.1
abbrev qMt' (S : ZQ) (x : Nat → Int32) : ZQ := (S.1, S.2.1, S.2.2.1, S.2.2.2.1, (S.2.2.2.2.1, x, S.2.2.2.2.2.2.1, S.2.2.2.2.2.2.2.1, S.2.2.2.2.2.2.2.2))
abbrev qVl (S : ZQ) : Nat → Int32 := S.2.2.2.2.2.2.1
abbrev qVl' (S : ZQ) (x : Nat → Int32) : ZQ := (S.1, S.2.1, S.2.2.1, S.2.2.2.1, (S.2.2.2.2.1, S.2.2.2.2.2.1, x, S.2.2.2.2.2.2.2.1, S.2.2.2.2.2.2.2.2))
abbrev qIo (S : ZQ) : Nat → Int32 := S.2.2.2.2.2.2.2.1
abbrev qIo' (S : ZQ) (x : Nat → Int32) : ZQ := (S.1, S.2.1, S.2.2.1, S.2.2.2.1, (S.2.2.2.2.1, S.2.2.2.2.2.1, S.2.2.2.2.2.2.1, x, S.2.2.2.2.2.2.2.2))
abbrev qPi (S : ZQ) : Nat → Int32 := S.2.2.2.2.2.2.2.2
abbrev qPi' (S : ZQ) (x : Nat → Int32) : ZQ := (S.1, S.2.1, S.2.2.1, S.2.2.2.1, (S.2.2.2.2.1, S.2.2.2.2.2.1, S.2.2.2.2.2.2.1, S.2.2.2.2.2.2.2.1, x))
def qw (z : zE) (B : Nat → Nat) (S : ZQ) : va_W := [((B 0), .inr (5, [.int (qTh S), .int (qTy S), .ref (B 1), .ref (B 2), .ref (B 3), .ref (B 4), .int (qMe S), .ref (B 5), .ref (B 6), .ref (B 7), .ref (B 8), .ref (B 9), .int (qKe S), .ref (B 10), .ref (B 11), .ref (B 12), .ref (B 13), .ref (B 14), .int (qWo S), .int (qHa S), .int (qPh S), .ref (B 15), .int (qLm S), .ref (B 16), .int (qMm S), .ref (B 17), .ref (B 18), .ref (B 19)])),
  ((B 1), .inl (zZ z, 32, .inl (qIf S))),
  ((B 2), .inl (zI z, 32, .inl (qAb S))),
  ((B 3), .inl (zI z, 32, .inl (qFm S))),
  ((B 4), .inl (zI z, 1024, .inl (qFa S))),
  ((B 5), .inl (zI z, 80, .inl (qOw S))),
  ((B 6), .inl (zI z, 80, .inl (qNa S))),
  ((B 7), .inl (zI z, 80, .inl (qMa S))),
  ((B 8), .inl (zI z, 320, .inl (qPa S))),
  ((B 9), .inl (zZ z, 80, .inl (qVa S))),
  ((B 10), .inl (zI z, 100, .inl (qKt S))),
  ((B 11), .inl (zI z, 100, .inl (qKn S))),
  ((B 12), .inl (zI z, 100, .inl (qKm S))),
  ((B 13), .inl (zL z, 100, .inr (.inl (qKc S)))),
  ((B 14), .inl (zI z, 100, .inl (qKa S))),
  ((B 15), .inl (zI z, 32, .inl (qLi S))),
  ((B 16), .inl (zI z, 80, .inl (qMt S))),
  ((B 17), .inl (zI z, 6, .inl (qVl S))),
  ((B 18), .inl (zZ z, 32, .inl (qIo S))),
  ((B 19), .inl (zI z, 1024, .inl (qPi S)))]
theorem cw_row {z : zE} {A : Nat → Nat} {S : ZC} {Rr : va_W} {j : Nat} (hj : j < 32) : (cw z A S ++ Rr)[23 + j]? = some (A (23 + j), .inl (zI z, 24, .inl (tGr S j))) := by
  show ((_ :: _ :: _ :: _ :: _ :: _ :: _ :: _ :: _ :: _ :: _ :: _ :: _ :: _ :: _ :: _ :: _ :: _ :: _ :: _ :: _ :: _ :: _ :: ((List.range 32).map (fun i => (A (23 + i), (.inl (zI z, 24, .inl (tGr S i)) : va_E))) ++ Rr)) : va_W)[23 + j]? = _
  rw [show 23 + j = j + 23 by omega]
  show (((List.range 32).map (fun i => (A (23 + i), (.inl (zI z, 24, .inl (tGr S i)) : va_E))) ++ Rr) : va_W)[j]? = _
  rw [List.getElem?_append_left (by simp [hj]), List.getElem?_map, List.getElem?_range hj]
  rw [show j + 23 = 23 + j by omega]
  rfl
theorem cw_srow {z : zE} {A : Nat → Nat} {S : ZC} {Rr : va_W} {j : Nat} (hj : j < 32) {f : Nat → Int32} : (cw z A S ++ Rr).set (23 + j) (A (23 + j), .inl (zI z, 24, .inl f)) = cw z A (tGr' S (va_up (tGr S) j f)) ++ Rr := by
  rw [show 23 + j = j + 23 by omega]
  show (_ :: _ :: _ :: _ :: _ :: _ :: _ :: _ :: _ :: _ :: _ :: _ :: _ :: _ :: _ :: _ :: _ :: _ :: _ :: _ :: _ :: _ :: _ :: (((List.range 32).map (fun i => (A (23 + i), (.inl (zI z, 24, .inl (tGr S i)) : va_E))) ++ Rr).set j (A (j + 23), .inl (zI z, 24, .inl f))) : va_W) = (_ :: _ :: _ :: _ :: _ :: _ :: _ :: _ :: _ :: _ :: _ :: _ :: _ :: _ :: _ :: _ :: _ :: _ :: _ :: _ :: _ :: _ :: _ :: (((List.range 32).map (fun i => (A (23 + i), (.inl (zI z, 24, .inl (va_up (tGr S) j f i)) : va_E))) ++ Rr)) : va_W)
  congr 23
  apply List.ext_getElem?
  intro k
  rw [List.getElem?_set]
  by_cases hk : j = k
  · subst hk
    rw [if_pos rfl, if_pos (by simp; omega), List.getElem?_append_left (by simp [hj]), List.getElem?_map, List.getElem?_range hj]
    show some (A (j + 23), _) = some (A (23 + j), _)
    rw [show j + 23 = 23 + j by omega]
    simp [va_up]
  · rw [if_neg hk]
    by_cases h32 : k < 32
    · rw [List.getElem?_append_left (by simp [h32]), List.getElem?_append_left (by simp [h32]), List.getElem?_map, List.getElem?_map, List.getElem?_range h32]
      have : ¬ k = j := fun q => hk q.symm
      simp [va_up, this]
    · rw [List.getElem?_append_right (by simp; omega), List.getElem?_append_right (by simp; omega)]
      simp
section ZZA
variable {z : zE} {p : Program} {l : Launch} {e : Env} {R : Room} {s : State} {m : MethodId} {args : Array Value} {below : List Frame} {meth : Method} {c : Code} {H : Heap} {locs : List Loc} {Q : State → Prop} {cc : ByteArray} {A0 : Nat → Prop} {pc cells slots : Nat} {ls : Array Slot} {w : va_W} {rest : List Value}
theorem zz_aald (hexec : p.tables.exec = Jvm.exec) (hb : c.code = cc) {D : va_G} {cl : List vw_C} {tys : List (ClassId × FieldType)} (hK : va_K D cl tys s) (hP : va_P D cl w H) (q0 t0 : Nat) {a : Nat} {cA : ClassId} {ty : FieldType} {n : Nat} {f : Nat → Nat} (ha : w[q0]? = some (a, .inl (cA, n, .inr (.inr (.inr (.inr (fun i => some (f i)))))))) (ht : tys[t0]? = some (cA, .array ty)) {i : Int32} (hin : vp_in i n) (hdg : decode cc pc = .ok (.aaload, 1))
    (kk : W p l e R s m args below meth c H locs cells slots Q (F0 m (pc + 1) ls (.ref (f i.toNatClampNeg) :: rest))) : W p l e R s m args below meth c H locs cells slots Q (F0 m pc ls (.int i :: .ref a :: rest)) := by
  have hlt : i.toNatClampNeg < n := Nat.not_le.mp fun q => hin (Or.inr q)
  exact W.aald (v := .ref (f i.toNatClampNeg)) (ty := .array ty) hexec hb (hP q0 _ ha) ((hK.2 t0 _ ht).1 n (fun j => va_rf (some (f j)))) rfl (fun q => by cases q) (by show ¬ (i < 0 ∨ (arrV _ _ _).slots.size ≤ _); rw [arrV_size]; exact hin) (by show (arrV _ _ _).slots[_]? = _; rw [arrV_read _ _ hlt]; rfl) rfl rfl hdg kk
end ZZA
