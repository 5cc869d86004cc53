/-! own helpers: binds of pure functions, the standard contract and its call rows -/
def bnd1 {α1 β : Type} (a : α1) (f : α1 → β) : β := f a
theorem bnd1_eq {α1 β : Type} {a : α1} {f : α1 → β} {y : β} {x1 : α1} (h : a = x1) (hF : y = bnd1 a f) : y = f x1 := hF.trans (by rw [h]; rfl)
def bnd2 {α1 α2 β : Type} (a : α1 × α2) (f : α1 → α2 → β) : β := f a.1 a.2
theorem bnd2_eq {α1 α2 β : Type} {a : α1 × α2} {f : α1 → α2 → β} {y : β} {x1 : α1} {x2 : α2} (h : a = (x1, x2)) (hF : y = bnd2 a f) : y = f x1 x2 := hF.trans (by rw [h]; rfl)
def bnd3 {α1 α2 α3 β : Type} (a : α1 × α2 × α3) (f : α1 → α2 → α3 → β) : β := f a.1 a.2.1 a.2.2
theorem bnd3_eq {α1 α2 α3 β : Type} {a : α1 × α2 × α3} {f : α1 → α2 → α3 → β} {y : β} {x1 : α1} {x2 : α2} {x3 : α3} (h : a = (x1, x2, x3)) (hF : y = bnd3 a f) : y = f x1 x2 x3 := hF.trans (by rw [h]; rfl)
def bnd4 {α1 α2 α3 α4 β : Type} (a : α1 × α2 × α3 × α4) (f : α1 → α2 → α3 → α4 → β) : β := f a.1 a.2.1 a.2.2.1 a.2.2.2
theorem bnd4_eq {α1 α2 α3 α4 β : Type} {a : α1 × α2 × α3 × α4} {f : α1 → α2 → α3 → α4 → β} {y : β} {x1 : α1} {x2 : α2} {x3 : α3} {x4 : α4} (h : a = (x1, x2, x3, x4)) (hF : y = bnd4 a f) : y = f x1 x2 x3 x4 := hF.trans (by rw [h]; rfl)
def bnd5 {α1 α2 α3 α4 α5 β : Type} (a : α1 × α2 × α3 × α4 × α5) (f : α1 → α2 → α3 → α4 → α5 → β) : β := f a.1 a.2.1 a.2.2.1 a.2.2.2.1 a.2.2.2.2
theorem bnd5_eq {α1 α2 α3 α4 α5 β : Type} {a : α1 × α2 × α3 × α4 × α5} {f : α1 → α2 → α3 → α4 → α5 → β} {y : β} {x1 : α1} {x2 : α2} {x3 : α3} {x4 : α4} {x5 : α5} (h : a = (x1, x2, x3, x4, x5)) (hF : y = bnd5 a f) : y = f x1 x2 x3 x4 x5 := hF.trans (by rw [h]; rfl)
def bnd6 {α1 α2 α3 α4 α5 α6 β : Type} (a : α1 × α2 × α3 × α4 × α5 × α6) (f : α1 → α2 → α3 → α4 → α5 → α6 → β) : β := f a.1 a.2.1 a.2.2.1 a.2.2.2.1 a.2.2.2.2.1 a.2.2.2.2.2
theorem bnd6_eq {α1 α2 α3 α4 α5 α6 β : Type} {a : α1 × α2 × α3 × α4 × α5 × α6} {f : α1 → α2 → α3 → α4 → α5 → α6 → β} {y : β} {x1 : α1} {x2 : α2} {x3 : α3} {x4 : α4} {x5 : α5} {x6 : α6} (h : a = (x1, x2, x3, x4, x5, x6)) (hF : y = bnd6 a f) : y = f x1 x2 x3 x4 x5 x6 := hF.trans (by rw [h]; rfl)
def bnd7 {α1 α2 α3 α4 α5 α6 α7 β : Type} (a : α1 × α2 × α3 × α4 × α5 × α6 × α7) (f : α1 → α2 → α3 → α4 → α5 → α6 → α7 → β) : β := f a.1 a.2.1 a.2.2.1 a.2.2.2.1 a.2.2.2.2.1 a.2.2.2.2.2.1 a.2.2.2.2.2.2
theorem bnd7_eq {α1 α2 α3 α4 α5 α6 α7 β : Type} {a : α1 × α2 × α3 × α4 × α5 × α6 × α7} {f : α1 → α2 → α3 → α4 → α5 → α6 → α7 → β} {y : β} {x1 : α1} {x2 : α2} {x3 : α3} {x4 : α4} {x5 : α5} {x6 : α6} {x7 : α7} (h : a = (x1, x2, x3, x4, x5, x6, x7)) (hF : y = bnd7 a f) : y = f x1 x2 x3 x4 x5 x6 x7 := hF.trans (by rw [h]; rfl)
def bnd8 {α1 α2 α3 α4 α5 α6 α7 α8 β : Type} (a : α1 × α2 × α3 × α4 × α5 × α6 × α7 × α8) (f : α1 → α2 → α3 → α4 → α5 → α6 → α7 → α8 → β) : β := f a.1 a.2.1 a.2.2.1 a.2.2.2.1 a.2.2.2.2.1 a.2.2.2.2.2.1 a.2.2.2.2.2.2.1 a.2.2.2.2.2.2.2
theorem bnd8_eq {α1 α2 α3 α4 α5 α6 α7 α8 β : Type} {a : α1 × α2 × α3 × α4 × α5 × α6 × α7 × α8} {f : α1 → α2 → α3 → α4 → α5 → α6 → α7 → α8 → β} {y : β} {x1 : α1} {x2 : α2} {x3 : α3} {x4 : α4} {x5 : α5} {x6 : α6} {x7 : α7} {x8 : α8} (h : a = (x1, x2, x3, x4, x5, x6, x7, x8)) (hF : y = bnd8 a f) : y = f x1 x2 x3 x4 x5 x6 x7 x8 := hF.trans (by rw [h]; rfl)
def bnd9 {α1 α2 α3 α4 α5 α6 α7 α8 α9 β : Type} (a : α1 × α2 × α3 × α4 × α5 × α6 × α7 × α8 × α9) (f : α1 → α2 → α3 → α4 → α5 → α6 → α7 → α8 → α9 → β) : β := f a.1 a.2.1 a.2.2.1 a.2.2.2.1 a.2.2.2.2.1 a.2.2.2.2.2.1 a.2.2.2.2.2.2.1 a.2.2.2.2.2.2.2.1 a.2.2.2.2.2.2.2.2
theorem bnd9_eq {α1 α2 α3 α4 α5 α6 α7 α8 α9 β : Type} {a : α1 × α2 × α3 × α4 × α5 × α6 × α7 × α8 × α9} {f : α1 → α2 → α3 → α4 → α5 → α6 → α7 → α8 → α9 → β} {y : β} {x1 : α1} {x2 : α2} {x3 : α3} {x4 : α4} {x5 : α5} {x6 : α6} {x7 : α7} {x8 : α8} {x9 : α9} (h : a = (x1, x2, x3, x4, x5, x6, x7, x8, x9)) (hF : y = bnd9 a f) : y = f x1 x2 x3 x4 x5 x6 x7 x8 x9 := hF.trans (by rw [h]; rfl)
def bnd10 {α1 α2 α3 α4 α5 α6 α7 α8 α9 α10 β : Type} (a : α1 × α2 × α3 × α4 × α5 × α6 × α7 × α8 × α9 × α10) (f : α1 → α2 → α3 → α4 → α5 → α6 → α7 → α8 → α9 → α10 → β) : β := f a.1 a.2.1 a.2.2.1 a.2.2.2.1 a.2.2.2.2.1 a.2.2.2.2.2.1 a.2.2.2.2.2.2.1 a.2.2.2.2.2.2.2.1 a.2.2.2.2.2.2.2.2.1 a.2.2.2.2.2.2.2.2.2
theorem bnd10_eq {α1 α2 α3 α4 α5 α6 α7 α8 α9 α10 β : Type} {a : α1 × α2 × α3 × α4 × α5 × α6 × α7 × α8 × α9 × α10} {f : α1 → α2 → α3 → α4 → α5 → α6 → α7 → α8 → α9 → α10 → β} {y : β} {x1 : α1} {x2 : α2} {x3 : α3} {x4 : α4} {x5 : α5} {x6 : α6} {x7 : α7} {x8 : α8} {x9 : α9} {x10 : α10} (h : a = (x1, x2, x3, x4, x5, x6, x7, x8, x9, x10)) (hF : y = bnd10 a f) : y = f x1 x2 x3 x4 x5 x6 x7 x8 x9 x10 := hF.trans (by rw [h]; rfl)
def bnd11 {α1 α2 α3 α4 α5 α6 α7 α8 α9 α10 α11 β : Type} (a : α1 × α2 × α3 × α4 × α5 × α6 × α7 × α8 × α9 × α10 × α11) (f : α1 → α2 → α3 → α4 → α5 → α6 → α7 → α8 → α9 → α10 → α11 → β) : β := f a.1 a.2.1 a.2.2.1 a.2.2.2.1 a.2.2.2.2.1 a.2.2.2.2.2.1 a.2.2.2.2.2.2.1 a.2.2.2.2.2.2.2.1 a.2.2.2.2.2.2.2.2.1 a.2.2.2.2.2.2.2.2.2.1 a.2.2.2.2.2.2.2.2.2.2
theorem bnd11_eq {α1 α2 α3 α4 α5 α6 α7 α8 α9 α10 α11 β : Type} {a : α1 × α2 × α3 × α4 × α5 × α6 × α7 × α8 × α9 × α10 × α11} {f : α1 → α2 → α3 → α4 → α5 → α6 → α7 → α8 → α9 → α10 → α11 → β} {y : β} {x1 : α1} {x2 : α2} {x3 : α3} {x4 : α4} {x5 : α5} {x6 : α6} {x7 : α7} {x8 : α8} {x9 : α9} {x10 : α10} {x11 : α11} (h : a = (x1, x2, x3, x4, x5, x6, x7, x8, x9, x10, x11)) (hF : y = bnd11 a f) : y = f x1 x2 x3 x4 x5 x6 x7 x8 x9 x10 x11 := hF.trans (by rw [h]; rfl)
def bnd12 {α1 α2 α3 α4 α5 α6 α7 α8 α9 α10 α11 α12 β : Type} (a : α1 × α2 × α3 × α4 × α5 × α6 × α7 × α8 × α9 × α10 × α11 × α12) (f : α1 → α2 → α3 → α4 → α5 → α6 → α7 → α8 → α9 → α10 → α11 → α12 → β) : β := f a.1 a.2.1 a.2.2.1 a.2.2.2.1 a.2.2.2.2.1 a.2.2.2.2.2.1 a.2.2.2.2.2.2.1 a.2.2.2.2.2.2.2.1 a.2.2.2.2.2.2.2.2.1 a.2.2.2.2.2.2.2.2.2.1 a.2.2.2.2.2.2.2.2.2.2.1 a.2.2.2.2.2.2.2.2.2.2.2
theorem bnd12_eq {α1 α2 α3 α4 α5 α6 α7 α8 α9 α10 α11 α12 β : Type} {a : α1 × α2 × α3 × α4 × α5 × α6 × α7 × α8 × α9 × α10 × α11 × α12} {f : α1 → α2 → α3 → α4 → α5 → α6 → α7 → α8 → α9 → α10 → α11 → α12 → β} {y : β} {x1 : α1} {x2 : α2} {x3 : α3} {x4 : α4} {x5 : α5} {x6 : α6} {x7 : α7} {x8 : α8} {x9 : α9} {x10 : α10} {x11 : α11} {x12 : α12} (h : a = (x1, x2, x3, x4, x5, x6, x7, x8, x9, x10, x11, x12)) (hF : y = bnd12 a f) : y = f x1 x2 x3 x4 x5 x6 x7 x8 x9 x10 x11 x12 := hF.trans (by rw [h]; rfl)
def bnd13 {α1 α2 α3 α4 α5 α6 α7 α8 α9 α10 α11 α12 α13 β : Type} (a : α1 × α2 × α3 × α4 × α5 × α6 × α7 × α8 × α9 × α10 × α11 × α12 × α13) (f : α1 → α2 → α3 → α4 → α5 → α6 → α7 → α8 → α9 → α10 → α11 → α12 → α13 → β) : β := f a.1 a.2.1 a.2.2.1 a.2.2.2.1 a.2.2.2.2.1 a.2.2.2.2.2.1 a.2.2.2.2.2.2.1 a.2.2.2.2.2.2.2.1 a.2.2.2.2.2.2.2.2.1 a.2.2.2.2.2.2.2.2.2.1 a.2.2.2.2.2.2.2.2.2.2.1 a.2.2.2.2.2.2.2.2.2.2.2.1 a.2.2.2.2.2.2.2.2.2.2.2.2
theorem bnd13_eq {α1 α2 α3 α4 α5 α6 α7 α8 α9 α10 α11 α12 α13 β : Type} {a : α1 × α2 × α3 × α4 × α5 × α6 × α7 × α8 × α9 × α10 × α11 × α12 × α13} {f : α1 → α2 → α3 → α4 → α5 → α6 → α7 → α8 → α9 → α10 → α11 → α12 → α13 → β} {y : β} {x1 : α1} {x2 : α2} {x3 : α3} {x4 : α4} {x5 : α5} {x6 : α6} {x7 : α7} {x8 : α8} {x9 : α9} {x10 : α10} {x11 : α11} {x12 : α12} {x13 : α13} (h : a = (x1, x2, x3, x4, x5, x6, x7, x8, x9, x10, x11, x12, x13)) (hF : y = bnd13 a f) : y = f x1 x2 x3 x4 x5 x6 x7 x8 x9 x10 x11 x12 x13 := hF.trans (by rw [h]; rfl)
def bnd14 {α1 α2 α3 α4 α5 α6 α7 α8 α9 α10 α11 α12 α13 α14 β : Type} (a : α1 × α2 × α3 × α4 × α5 × α6 × α7 × α8 × α9 × α10 × α11 × α12 × α13 × α14) (f : α1 → α2 → α3 → α4 → α5 → α6 → α7 → α8 → α9 → α10 → α11 → α12 → α13 → α14 → β) : β := f a.1 a.2.1 a.2.2.1 a.2.2.2.1 a.2.2.2.2.1 a.2.2.2.2.2.1 a.2.2.2.2.2.2.1 a.2.2.2.2.2.2.2.1 a.2.2.2.2.2.2.2.2.1 a.2.2.2.2.2.2.2.2.2.1 a.2.2.2.2.2.2.2.2.2.2.1 a.2.2.2.2.2.2.2.2.2.2.2.1 a.2.2.2.2.2.2.2.2.2.2.2.2.1 a.2.2.2.2.2.2.2.2.2.2.2.2.2
theorem bnd14_eq {α1 α2 α3 α4 α5 α6 α7 α8 α9 α10 α11 α12 α13 α14 β : Type} {a : α1 × α2 × α3 × α4 × α5 × α6 × α7 × α8 × α9 × α10 × α11 × α12 × α13 × α14} {f : α1 → α2 → α3 → α4 → α5 → α6 → α7 → α8 → α9 → α10 → α11 → α12 → α13 → α14 → β} {y : β} {x1 : α1} {x2 : α2} {x3 : α3} {x4 : α4} {x5 : α5} {x6 : α6} {x7 : α7} {x8 : α8} {x9 : α9} {x10 : α10} {x11 : α11} {x12 : α12} {x13 : α13} {x14 : α14} (h : a = (x1, x2, x3, x4, x5, x6, x7, x8, x9, x10, x11, x12, x13, x14)) (hF : y = bnd14 a f) : y = f x1 x2 x3 x4 x5 x6 x7 x8 x9 x10 x11 x12 x13 x14 := hF.trans (by rw [h]; rfl)
def bnd15 {α1 α2 α3 α4 α5 α6 α7 α8 α9 α10 α11 α12 α13 α14 α15 β : Type} (a : α1 × α2 × α3 × α4 × α5 × α6 × α7 × α8 × α9 × α10 × α11 × α12 × α13 × α14 × α15) (f : α1 → α2 → α3 → α4 → α5 → α6 → α7 → α8 → α9 → α10 → α11 → α12 → α13 → α14 → α15 → β) : β := f a.1 a.2.1 a.2.2.1 a.2.2.2.1 a.2.2.2.2.1 a.2.2.2.2.2.1 a.2.2.2.2.2.2.1 a.2.2.2.2.2.2.2.1 a.2.2.2.2.2.2.2.2.1 a.2.2.2.2.2.2.2.2.2.1 a.2.2.2.2.2.2.2.2.2.2.1 a.2.2.2.2.2.2.2.2.2.2.2.1 a.2.2.2.2.2.2.2.2.2.2.2.2.1 a.2.2.2.2.2.2.2.2.2.2.2.2.2.1 a.2.2.2.2.2.2.2.2.2.2.2.2.2.2
theorem bnd15_eq {α1 α2 α3 α4 α5 α6 α7 α8 α9 α10 α11 α12 α13 α14 α15 β : Type} {a : α1 × α2 × α3 × α4 × α5 × α6 × α7 × α8 × α9 × α10 × α11 × α12 × α13 × α14 × α15} {f : α1 → α2 → α3 → α4 → α5 → α6 → α7 → α8 → α9 → α10 → α11 → α12 → α13 → α14 → α15 → β} {y : β} {x1 : α1} {x2 : α2} {x3 : α3} {x4 : α4} {x5 : α5} {x6 : α6} {x7 : α7} {x8 : α8} {x9 : α9} {x10 : α10} {x11 : α11} {x12 : α12} {x13 : α13} {x14 : α14} {x15 : α15} (h : a = (x1, x2, x3, x4, x5, x6, x7, x8, x9, x10, x11, x12, x13, x14, x15)) (hF : y = bnd15 a f) : y = f x1 x2 x3 x4 x5 x6 x7 x8 x9 x10 x11 x12 x13 x14 x15 := hF.trans (by rw [h]; rfl)
def bnd16 {α1 α2 α3 α4 α5 α6 α7 α8 α9 α10 α11 α12 α13 α14 α15 α16 β : Type} (a : α1 × α2 × α3 × α4 × α5 × α6 × α7 × α8 × α9 × α10 × α11 × α12 × α13 × α14 × α15 × α16) (f : α1 → α2 → α3 → α4 → α5 → α6 → α7 → α8 → α9 → α10 → α11 → α12 → α13 → α14 → α15 → α16 → β) : β := f a.1 a.2.1 a.2.2.1 a.2.2.2.1 a.2.2.2.2.1 a.2.2.2.2.2.1 a.2.2.2.2.2.2.1 a.2.2.2.2.2.2.2.1 a.2.2.2.2.2.2.2.2.1 a.2.2.2.2.2.2.2.2.2.1 a.2.2.2.2.2.2.2.2.2.2.1 a.2.2.2.2.2.2.2.2.2.2.2.1 a.2.2.2.2.2.2.2.2.2.2.2.2.1 a.2.2.2.2.2.2.2.2.2.2.2.2.2.1 a.2.2.2.2.2.2.2.2.2.2.2.2.2.2.1 a.2.2.2.2.2.2.2.2.2.2.2.2.2.2.2
theorem bnd16_eq {α1 α2 α3 α4 α5 α6 α7 α8 α9 α10 α11 α12 α13 α14 α15 α16 β : Type} {a : α1 × α2 × α3 × α4 × α5 × α6 × α7 × α8 × α9 × α10 × α11 × α12 × α13 × α14 × α15 × α16} {f : α1 → α2 → α3 → α4 → α5 → α6 → α7 → α8 → α9 → α10 → α11 → α12 → α13 → α14 → α15 → α16 → β} {y : β} {x1 : α1} {x2 : α2} {x3 : α3} {x4 : α4} {x5 : α5} {x6 : α6} {x7 : α7} {x8 : α8} {x9 : α9} {x10 : α10} {x11 : α11} {x12 : α12} {x13 : α13} {x14 : α14} {x15 : α15} {x16 : α16} (h : a = (x1, x2, x3, x4, x5, x6, x7, x8, x9, x10, x11, x12, x13, x14, x15, x16)) (hF : y = bnd16 a f) : y = f x1 x2 x3 x4 x5 x6 x7 x8 x9 x10 x11 x12 x13 x14 x15 x16 := hF.trans (by rw [h]; rfl)
def bnd17 {α1 α2 α3 α4 α5 α6 α7 α8 α9 α10 α11 α12 α13 α14 α15 α16 α17 β : Type} (a : α1 × α2 × α3 × α4 × α5 × α6 × α7 × α8 × α9 × α10 × α11 × α12 × α13 × α14 × α15 × α16 × α17) (f : α1 → α2 → α3 → α4 → α5 → α6 → α7 → α8 → α9 → α10 → α11 → α12 → α13 → α14 → α15 → α16 → α17 → β) : β := f a.1 a.2.1 a.2.2.1 a.2.2.2.1 a.2.2.2.2.1 a.2.2.2.2.2.1 a.2.2.2.2.2.2.1 a.2.2.2.2.2.2.2.1 a.2.2.2.2.2.2.2.2.1 a.2.2.2.2.2.2.2.2.2.1 a.2.2.2.2.2.2.2.2.2.2.1 a.2.2.2.2.2.2.2.2.2.2.2.1 a.2.2.2.2.2.2.2.2.2.2.2.2.1 a.2.2.2.2.2.2.2.2.2.2.2.2.2.1 a.2.2.2.2.2.2.2.2.2.2.2.2.2.2.1 a.2.2.2.2.2.2.2.2.2.2.2.2.2.2.2.1 a.2.2.2.2.2.2.2.2.2.2.2.2.2.2.2.2
theorem bnd17_eq {α1 α2 α3 α4 α5 α6 α7 α8 α9 α10 α11 α12 α13 α14 α15 α16 α17 β : Type} {a : α1 × α2 × α3 × α4 × α5 × α6 × α7 × α8 × α9 × α10 × α11 × α12 × α13 × α14 × α15 × α16 × α17} {f : α1 → α2 → α3 → α4 → α5 → α6 → α7 → α8 → α9 → α10 → α11 → α12 → α13 → α14 → α15 → α16 → α17 → β} {y : β} {x1 : α1} {x2 : α2} {x3 : α3} {x4 : α4} {x5 : α5} {x6 : α6} {x7 : α7} {x8 : α8} {x9 : α9} {x10 : α10} {x11 : α11} {x12 : α12} {x13 : α13} {x14 : α14} {x15 : α15} {x16 : α16} {x17 : α17} (h : a = (x1, x2, x3, x4, x5, x6, x7, x8, x9, x10, x11, x12, x13, x14, x15, x16, x17)) (hF : y = bnd17 a f) : y = f x1 x2 x3 x4 x5 x6 x7 x8 x9 x10 x11 x12 x13 x14 x15 x16 x17 := hF.trans (by rw [h]; rfl)
def bnd18 {α1 α2 α3 α4 α5 α6 α7 α8 α9 α10 α11 α12 α13 α14 α15 α16 α17 α18 β : Type} (a : α1 × α2 × α3 × α4 × α5 × α6 × α7 × α8 × α9 × α10 × α11 × α12 × α13 × α14 × α15 × α16 × α17 × α18) (f : α1 → α2 → α3 → α4 → α5 → α6 → α7 → α8 → α9 → α10 → α11 → α12 → α13 → α14 → α15 → α16 → α17 → α18 → β) : β := f a.1 a.2.1 a.2.2.1 a.2.2.2.1 a.2.2.2.2.1 a.2.2.2.2.2.1 a.2.2.2.2.2.2.1 a.2.2.2.2.2.2.2.1 a.2.2.2.2.2.2.2.2.1 a.2.2.2.2.2.2.2.2.2.1 a.2.2.2.2.2.2.2.2.2.2.1 a.2.2.2.2.2.2.2.2.2.2.2.1 a.2.2.2.2.2.2.2.2.2.2.2.2.1 a.2.2.2.2.2.2.2.2.2.2.2.2.2.1 a.2.2.2.2.2.2.2.2.2.2.2.2.2.2.1 a.2.2.2.2.2.2.2.2.2.2.2.2.2.2.2.1 a.2.2.2.2.2.2.2.2.2.2.2.2.2.2.2.2.1 a.2.2.2.2.2.2.2.2.2.2.2.2.2.2.2.2.2
theorem bnd18_eq {α1 α2 α3 α4 α5 α6 α7 α8 α9 α10 α11 α12 α13 α14 α15 α16 α17 α18 β : Type} {a : α1 × α2 × α3 × α4 × α5 × α6 × α7 × α8 × α9 × α10 × α11 × α12 × α13 × α14 × α15 × α16 × α17 × α18} {f : α1 → α2 → α3 → α4 → α5 → α6 → α7 → α8 → α9 → α10 → α11 → α12 → α13 → α14 → α15 → α16 → α17 → α18 → β} {y : β} {x1 : α1} {x2 : α2} {x3 : α3} {x4 : α4} {x5 : α5} {x6 : α6} {x7 : α7} {x8 : α8} {x9 : α9} {x10 : α10} {x11 : α11} {x12 : α12} {x13 : α13} {x14 : α14} {x15 : α15} {x16 : α16} {x17 : α17} {x18 : α18} (h : a = (x1, x2, x3, x4, x5, x6, x7, x8, x9, x10, x11, x12, x13, x14, x15, x16, x17, x18)) (hF : y = bnd18 a f) : y = f x1 x2 x3 x4 x5 x6 x7 x8 x9 x10 x11 x12 x13 x14 x15 x16 x17 x18 := hF.trans (by rw [h]; rfl)
def bnd19 {α1 α2 α3 α4 α5 α6 α7 α8 α9 α10 α11 α12 α13 α14 α15 α16 α17 α18 α19 β : Type} (a : α1 × α2 × α3 × α4 × α5 × α6 × α7 × α8 × α9 × α10 × α11 × α12 × α13 × α14 × α15 × α16 × α17 × α18 × α19) (f : α1 → α2 → α3 → α4 → α5 → α6 → α7 → α8 → α9 → α10 → α11 → α12 → α13 → α14 → α15 → α16 → α17 → α18 → α19 → β) : β := f a.1 a.2.1 a.2.2.1 a.2.2.2.1 a.2.2.2.2.1 a.2.2.2.2.2.1 a.2.2.2.2.2.2.1 a.2.2.2.2.2.2.2.1 a.2.2.2.2.2.2.2.2.1 a.2.2.2.2.2.2.2.2.2.1 a.2.2.2.2.2.2.2.2.2.2.1 a.2.2.2.2.2.2.2.2.2.2.2.1 a.2.2.2.2.2.2.2.2.2.2.2.2.1 a.2.2.2.2.2.2.2.2.2.2.2.2.2.1 a.2.2.2.2.2.2.2.2.2.2.2.2.2.2.1 a.2.2.2.2.2.2.2.2.2.2.2.2.2.2.2.1 a.2.2.2.2.2.2.2.2.2.2.2.2.2.2.2.2.1 a.2.2.2.2.2.2.2.2.2.2.2.2.2.2.2.2.2.1 a.2.2.2.2.2.2.2.2.2.2.2.2.2.2.2.2.2.2
theorem bnd19_eq {α1 α2 α3 α4 α5 α6 α7 α8 α9 α10 α11 α12 α13 α14 α15 α16 α17 α18 α19 β : Type} {a : α1 × α2 × α3 × α4 × α5 × α6 × α7 × α8 × α9 × α10 × α11 × α12 × α13 × α14 × α15 × α16 × α17 × α18 × α19} {f : α1 → α2 → α3 → α4 → α5 → α6 → α7 → α8 → α9 → α10 → α11 → α12 → α13 → α14 → α15 → α16 → α17 → α18 → α19 → β} {y : β} {x1 : α1} {x2 : α2} {x3 : α3} {x4 : α4} {x5 : α5} {x6 : α6} {x7 : α7} {x8 : α8} {x9 : α9} {x10 : α10} {x11 : α11} {x12 : α12} {x13 : α13} {x14 : α14} {x15 : α15} {x16 : α16} {x17 : α17} {x18 : α18} {x19 : α19} (h : a = (x1, x2, x3, x4, x5, x6, x7, x8, x9, x10, x11, x12, x13, x14, x15, x16, x17, x18, x19)) (hF : y = bnd19 a f) : y = f x1 x2 x3 x4 x5 x6 x7 x8 x9 x10 x11 x12 x13 x14 x15 x16 x17 x18 x19 := hF.trans (by rw [h]; rfl)
def bnd20 {α1 α2 α3 α4 α5 α6 α7 α8 α9 α10 α11 α12 α13 α14 α15 α16 α17 α18 α19 α20 β : Type} (a : α1 × α2 × α3 × α4 × α5 × α6 × α7 × α8 × α9 × α10 × α11 × α12 × α13 × α14 × α15 × α16 × α17 × α18 × α19 × α20) (f : α1 → α2 → α3 → α4 → α5 → α6 → α7 → α8 → α9 → α10 → α11 → α12 → α13 → α14 → α15 → α16 → α17 → α18 → α19 → α20 → β) : β := f a.1 a.2.1 a.2.2.1 a.2.2.2.1 a.2.2.2.2.1 a.2.2.2.2.2.1 a.2.2.2.2.2.2.1 a.2.2.2.2.2.2.2.1 a.2.2.2.2.2.2.2.2.1 a.2.2.2.2.2.2.2.2.2.1 a.2.2.2.2.2.2.2.2.2.2.1 a.2.2.2.2.2.2.2.2.2.2.2.1 a.2.2.2.2.2.2.2.2.2.2.2.2.1 a.2.2.2.2.2.2.2.2.2.2.2.2.2.1 a.2.2.2.2.2.2.2.2.2.2.2.2.2.2.1 a.2.2.2.2.2.2.2.2.2.2.2.2.2.2.2.1 a.2.2.2.2.2.2.2.2.2.2.2.2.2.2.2.2.1 a.2.2.2.2.2.2.2.2.2.2.2.2.2.2.2.2.2.1 a.2.2.2.2.2.2.2.2.2.2.2.2.2.2.2.2.2.2.1 a.2.2.2.2.2.2.2.2.2.2.2.2.2.2.2.2.2.2.2
theorem bnd20_eq {α1 α2 α3 α4 α5 α6 α7 α8 α9 α10 α11 α12 α13 α14 α15 α16 α17 α18 α19 α20 β : Type} {a : α1 × α2 × α3 × α4 × α5 × α6 × α7 × α8 × α9 × α10 × α11 × α12 × α13 × α14 × α15 × α16 × α17 × α18 × α19 × α20} {f : α1 → α2 → α3 → α4 → α5 → α6 → α7 → α8 → α9 → α10 → α11 → α12 → α13 → α14 → α15 → α16 → α17 → α18 → α19 → α20 → β} {y : β} {x1 : α1} {x2 : α2} {x3 : α3} {x4 : α4} {x5 : α5} {x6 : α6} {x7 : α7} {x8 : α8} {x9 : α9} {x10 : α10} {x11 : α11} {x12 : α12} {x13 : α13} {x14 : α14} {x15 : α15} {x16 : α16} {x17 : α17} {x18 : α18} {x19 : α19} {x20 : α20} (h : a = (x1, x2, x3, x4, x5, x6, x7, x8, x9, x10, x11, x12, x13, x14, x15, x16, x17, x18, x19, x20)) (hF : y = bnd20 a f) : y = f x1 x2 x3 x4 x5 x6 x7 x8 x9 x10 x11 x12 x13 x14 x15 x16 x17 x18 x19 x20 := hF.trans (by rw [h]; rfl)
def bnd21 {α1 α2 α3 α4 α5 α6 α7 α8 α9 α10 α11 α12 α13 α14 α15 α16 α17 α18 α19 α20 α21 β : Type} (a : α1 × α2 × α3 × α4 × α5 × α6 × α7 × α8 × α9 × α10 × α11 × α12 × α13 × α14 × α15 × α16 × α17 × α18 × α19 × α20 × α21) (f : α1 → α2 → α3 → α4 → α5 → α6 → α7 → α8 → α9 → α10 → α11 → α12 → α13 → α14 → α15 → α16 → α17 → α18 → α19 → α20 → α21 → β) : β := f a.1 a.2.1 a.2.2.1 a.2.2.2.1 a.2.2.2.2.1 a.2.2.2.2.2.1 a.2.2.2.2.2.2.1 a.2.2.2.2.2.2.2.1 a.2.2.2.2.2.2.2.2.1 a.2.2.2.2.2.2.2.2.2.1 a.2.2.2.2.2.2.2.2.2.2.1 a.2.2.2.2.2.2.2.2.2.2.2.1 a.2.2.2.2.2.2.2.2.2.2.2.2.1 a.2.2.2.2.2.2.2.2.2.2.2.2.2.1 a.2.2.2.2.2.2.2.2.2.2.2.2.2.2.1 a.2.2.2.2.2.2.2.2.2.2.2.2.2.2.2.1 a.2.2.2.2.2.2.2.2.2.2.2.2.2.2.2.2.1 a.2.2.2.2.2.2.2.2.2.2.2.2.2.2.2.2.2.1 a.2.2.2.2.2.2.2.2.2.2.2.2.2.2.2.2.2.2.1 a.2.2.2.2.2.2.2.2.2.2.2.2.2.2.2.2.2.2.2.1 a.2.2.2.2.2.2.2.2.2.2.2.2.2.2.2.2.2.2.2.2
theorem bnd21_eq {α1 α2 α3 α4 α5 α6 α7 α8 α9 α10 α11 α12 α13 α14 α15 α16 α17 α18 α19 α20 α21 β : Type} {a : α1 × α2 × α3 × α4 × α5 × α6 × α7 × α8 × α9 × α10 × α11 × α12 × α13 × α14 × α15 × α16 × α17 × α18 × α19 × α20 × α21} {f : α1 → α2 → α3 → α4 → α5 → α6 → α7 → α8 → α9 → α10 → α11 → α12 → α13 → α14 → α15 → α16 → α17 → α18 → α19 → α20 → α21 → β} {y : β} {x1 : α1} {x2 : α2} {x3 : α3} {x4 : α4} {x5 : α5} {x6 : α6} {x7 : α7} {x8 : α8} {x9 : α9} {x10 : α10} {x11 : α11} {x12 : α12} {x13 : α13} {x14 : α14} {x15 : α15} {x16 : α16} {x17 : α17} {x18 : α18} {x19 : α19} {x20 : α20} {x21 : α21} (h : a = (x1, x2, x3, x4, x5, x6, x7, x8, x9, x10, x11, x12, x13, x14, x15, x16, x17, x18, x19, x20, x21)) (hF : y = bnd21 a f) : y = f x1 x2 x3 x4 x5 x6 x7 x8 x9 x10 x11 x12 x13 x14 x15 x16 x17 x18 x19 x20 x21 := hF.trans (by rw [h]; rfl)
def bnd22 {α1 α2 α3 α4 α5 α6 α7 α8 α9 α10 α11 α12 α13 α14 α15 α16 α17 α18 α19 α20 α21 α22 β : Type} (a : α1 × α2 × α3 × α4 × α5 × α6 × α7 × α8 × α9 × α10 × α11 × α12 × α13 × α14 × α15 × α16 × α17 × α18 × α19 × α20 × α21 × α22) (f : α1 → α2 → α3 → α4 → α5 → α6 → α7 → α8 → α9 → α10 → α11 → α12 → α13 → α14 → α15 → α16 → α17 → α18 → α19 → α20 → α21 → α22 → β) : β := f a.1 a.2.1 a.2.2.1 a.2.2.2.1 a.2.2.2.2.1 a.2.2.2.2.2.1 a.2.2.2.2.2.2.1 a.2.2.2.2.2.2.2.1 a.2.2.2.2.2.2.2.2.1 a.2.2.2.2.2.2.2.2.2.1 a.2.2.2.2.2.2.2.2.2.2.1 a.2.2.2.2.2.2.2.2.2.2.2.1 a.2.2.2.2.2.2.2.2.2.2.2.2.1 a.2.2.2.2.2.2.2.2.2.2.2.2.2.1 a.2.2.2.2.2.2.2.2.2.2.2.2.2.2.1 a.2.2.2.2.2.2.2.2.2.2.2.2.2.2.2.1 a.2.2.2.2.2.2.2.2.2.2.2.2.2.2.2.2.1 a.2.2.2.2.2.2.2.2.2.2.2.2.2.2.2.2.2.1 a.2.2.2.2.2.2.2.2.2.2.2.2.2.2.2.2.2.2.1 a.2.2.2.2.2.2.2.2.2.2.2.2.2.2.2.2.2.2.2.1 a.2.2.2.2.2.2.2.2.2.2.2.2.2.2.2.2.2.2.2.2.1 a.2.2.2.2.2.2.2.2.2.2.2.2.2.2.2.2.2.2.2.2.2
theorem bnd22_eq {α1 α2 α3 α4 α5 α6 α7 α8 α9 α10 α11 α12 α13 α14 α15 α16 α17 α18 α19 α20 α21 α22 β : Type} {a : α1 × α2 × α3 × α4 × α5 × α6 × α7 × α8 × α9 × α10 × α11 × α12 × α13 × α14 × α15 × α16 × α17 × α18 × α19 × α20 × α21 × α22} {f : α1 → α2 → α3 → α4 → α5 → α6 → α7 → α8 → α9 → α10 → α11 → α12 → α13 → α14 → α15 → α16 → α17 → α18 → α19 → α20 → α21 → α22 → β} {y : β} {x1 : α1} {x2 : α2} {x3 : α3} {x4 : α4} {x5 : α5} {x6 : α6} {x7 : α7} {x8 : α8} {x9 : α9} {x10 : α10} {x11 : α11} {x12 : α12} {x13 : α13} {x14 : α14} {x15 : α15} {x16 : α16} {x17 : α17} {x18 : α18} {x19 : α19} {x20 : α20} {x21 : α21} {x22 : α22} (h : a = (x1, x2, x3, x4, x5, x6, x7, x8, x9, x10, x11, x12, x13, x14, x15, x16, x17, x18, x19, x20, x21, x22)) (hF : y = bnd22 a f) : y = f x1 x2 x3 x4 x5 x6 x7 x8 x9 x10 x11 x12 x13 x14 x15 x16 x17 x18 x19 x20 x21 x22 := hF.trans (by rw [h]; rfl)
def bnd23 {α1 α2 α3 α4 α5 α6 α7 α8 α9 α10 α11 α12 α13 α14 α15 α16 α17 α18 α19 α20 α21 α22 α23 β : Type} (a : α1 × α2 × α3 × α4 × α5 × α6 × α7 × α8 × α9 × α10 × α11 × α12 × α13 × α14 × α15 × α16 × α17 × α18 × α19 × α20 × α21 × α22 × α23) (f : α1 → α2 → α3 → α4 → α5 → α6 → α7 → α8 → α9 → α10 → α11 → α12 → α13 → α14 → α15 → α16 → α17 → α18 → α19 → α20 → α21 → α22 → α23 → β) : β := f a.1 a.2.1 a.2.2.1 a.2.2.2.1 a.2.2.2.2.1 a.2.2.2.2.2.1 a.2.2.2.2.2.2.1 a.2.2.2.2.2.2.2.1 a.2.2.2.2.2.2.2.2.1 a.2.2.2.2.2.2.2.2.2.1 a.2.2.2.2.2.2.2.2.2.2.1 a.2.2.2.2.2.2.2.2.2.2.2.1 a.2.2.2.2.2.2.2.2.2.2.2.2.1 a.2.2.2.2.2.2.2.2.2.2.2.2.2.1 a.2.2.2.2.2.2.2.2.2.2.2.2.2.2.1 a.2.2.2.2.2.2.2.2.2.2.2.2.2.2.2.1 a.2.2.2.2.2.2.2.2.2.2.2.2.2.2.2.2.1 a.2.2.2.2.2.2.2.2.2.2.2.2.2.2.2.2.2.1 a.2.2.2.2.2.2.2.2.2.2.2.2.2.2.2.2.2.2.1 a.2.2.2.2.2.2.2.2.2.2.2.2.2.2.2.2.2.2.2.1 a.2.2.2.2.2.2.2.2.2.2.2.2.2.2.2.2.2.2.2.2.1 a.2.2.2.2.2.2.2.2.2.2.2.2.2.2.2.2.2.2.2.2.2.1 a.2.2.2.2.2.2.2.2.2.2.2.2.2.2.2.2.2.2.2.2.2.2
theorem bnd23_eq {α1 α2 α3 α4 α5 α6 α7 α8 α9 α10 α11 α12 α13 α14 α15 α16 α17 α18 α19 α20 α21 α22 α23 β : Type} {a : α1 × α2 × α3 × α4 × α5 × α6 × α7 × α8 × α9 × α10 × α11 × α12 × α13 × α14 × α15 × α16 × α17 × α18 × α19 × α20 × α21 × α22 × α23} {f : α1 → α2 → α3 → α4 → α5 → α6 → α7 → α8 → α9 → α10 → α11 → α12 → α13 → α14 → α15 → α16 → α17 → α18 → α19 → α20 → α21 → α22 → α23 → β} {y : β} {x1 : α1} {x2 : α2} {x3 : α3} {x4 : α4} {x5 : α5} {x6 : α6} {x7 : α7} {x8 : α8} {x9 : α9} {x10 : α10} {x11 : α11} {x12 : α12} {x13 : α13} {x14 : α14} {x15 : α15} {x16 : α16} {x17 : α17} {x18 : α18} {x19 : α19} {x20 : α20} {x21 : α21} {x22 : α22} {x23 : α23} (h : a = (x1, x2, x3, x4, x5, x6, x7, x8, x9, x10, x11, x12, x13, x14, x15, x16, x17, x18, x19, x20, x21, x22, x23)) (hF : y = bnd23 a f) : y = f x1 x2 x3 x4 x5 x6 x7 x8 x9 x10 x11 x12 x13 x14 x15 x16 x17 x18 x19 x20 x21 x22 x23 := hF.trans (by rw [h]; rfl)
theorem ite_t {α : Type} {c : Prop} [Decidable c] {a b x : α} (hc : c) (hF : x = if c then a else b) : x = a := hF.trans (if_pos hc)
theorem ite_f {α : Type} {c : Prop} [Decidable c] {a b x : α} (hc : ¬ c) (hF : x = if c then a else b) : x = b := hF.trans (if_neg hc)
theorem ite_or {α : Type} {c : Prop} [Decidable c] {a b x : α} (hF : x = if c then a else b) : (c ∧ x = a) ∨ (¬ c ∧ x = b) := by
  by_cases h : c
  · exact Or.inl ⟨h, ite_t h hF⟩
  · exact Or.inr ⟨h, ite_f h hF⟩
def ju_iushr (x y : Int32) : Int32 := (x.toUInt32 >>> (y.toUInt32 &&& Int32.toUInt32 31)).toInt32
def ju_lushr (x : Int64) (y : Int32) : Int64 := (x.toUInt64 >>> (y.toInt64.toUInt64 &&& Int64.toUInt64 63)).toInt64
def ju_lshl (x : Int64) (y : Int32) : Int64 := x <<< (y.toInt64 &&& 63)
def ju_lshr (x : Int64) (y : Int32) : Int64 := x >>> (y.toInt64 &&& 63)
-- the links to private members of a nest mate
def nwl : List Cond := [.methodLinkNest RX1 26 yX8_isPage RX8, .methodLinkNest RX1 44 yX8_padOf RX8, .methodLinkNest RX6 67 yX8_isPage RX8, .methodLinkNest RX7 52 yX8_dataPages RX8, .methodLinkNest RX7 126 yX8_padOf RX8, .methodLinkNest RX6 71 yX8_isObject RX8]
def NW (U : State) : Prop := ∀ w ∈ nwl, va_Nw w U
theorem NW.warm {s U : State} (hW : s.WarmedH U.vm) (h : NW s) : NW U := by
  intro w hw
  have h1 := h w hw
  simp only [nwl, List.mem_cons, List.not_mem_nil, or_false] at hw
  rcases hw with rfl | rfl | rfl | rfl | rfl | rfl <;> exact va_Nw.warmM hW h1
theorem NW.same {u U : State} (e : u.vm = U.vm) (h : NW u) : NW U := by
  intro w hw
  have h1 := h w hw
  simp only [nwl, List.mem_cons, List.not_mem_nil, or_false] at hw
  rcases hw with rfl | rfl | rfl | rfl | rfl | rfl <;> exact va_Nw.same rfl e h1
abbrev ty4 (cJ cI cB cZ : ClassId) : List (ClassId × FieldType) := [(cJ, .long), (cI, .int), (cB, .byte), (cZ, .boolean)]
/-- where a standard contract begins: the cells wc, apart; the classes; the nest's links -/
def st_B (D : va_G) (tys : List (ClassId × FieldType)) (wc : va_W) (sz : Nat) : State → Prop := fun U => U.heap.size = sz ∧ va_P D vwCl wc U.heap ∧ va_K D vwCl tys U ∧ va_D (fun _ => True) wc ∧ NW U
/-- where it ends: the cells w1 -/
def st_W (D : va_G) (tys : List (ClassId × FieldType)) (wc : va_W) (sz : Nat) (w1 : va_W) (t : State) : Prop := va_P D vwCl w1 t.heap ∧ va_K D vwCl tys t ∧ va_D (va_A wc sz) w1
theorem st_blind {D : va_G} {tys : List (ClassId × FieldType)} {wc : va_W} {sz : Nat} {av : List Value} : FrameBlind (va_Pc av (st_B D tys wc sz)) := fun a U g mk q => by
  obtain ⟨q0, q1, qP, qK, qD, qN⟩ := q
  exact ⟨q0, q1, qP, va_K.moved (u := U) (U := U.calling g mk a) (Vm.Alike.refl U.vm) qK, qD, NW.same (u := U) (U := U.calling g mk a) rfl qN⟩
theorem st_preS {s : State} {H : Heap} {D : va_G} {tys : List (ClassId × FieldType)} {ws wc : va_W} {A0 : Nat → Prop} {av : List Value} (hK : va_K D vwCl tys s) (hP : va_P D vwCl ws H) (hD : va_D A0 ws) (hN : NW s) (isC : List Nat) (hC1 : isC.filterMap (fun i => ws[i]?) = wc) (hnd : va_nd isC = true) (hC : isC.map (fun i => ws[i]?) = wc.map some) : PreS s H (va_Pc av (st_B D tys wc H.size)) av :=
  ⟨st_blind, fun U hU hW => ⟨rfl, by rw [hU], by rw [hU]; exact hP.sub isC hC1, va_K.moved hW.alike hK, (hD.sub isC hnd hC).weaken (fun _ _ _ _ => trivial), NW.warm hW hN⟩⟩
theorem st_preV {s : State} {H : Heap} {D : va_G} {tys : List (ClassId × FieldType)} {ws wc : va_W} {A0 : Nat → Prop} {As : List Value} {b ci q0 : Nat} {q : vw_C} {fs : List Value} (hK : va_K D vwCl tys s) (hP : va_P D vwCl ws H) (hD : va_D A0 ws) (hN : NW s) (isC : List Nat) (hC1 : isC.filterMap (fun i => ws[i]?) = wc) (hnd : va_nd isC = true) (hC : isC.map (fun i => ws[i]?) = wc.map some) (hc : vwCl[ci]? = some q) (he : ws[q0]? = some (b, .inr (ci, fs))) : PreV s H q.1 b (va_Pc (.ref b :: As) (st_B D tys wc H.size)) As :=
  ⟨st_blind, va_recv hK hP hc he, (st_preS (av := .ref b :: As) hK hP hD hN isC hC1 hnd hC).2⟩
section STC
variable {p : Program} {l : Launch} {e : Env} {R : Room} {s : State} {m : MethodId} {args : Array Value} {below : List Frame} {meth : Method} {c : Code} {H H0 : Heap} {locs : List Loc} {cells slots : Nat} {Q : State → Prop} {pc : Nat} {ls : Array Slot} {st0 rest : List Value} {a : Array Value} {A0 : Nat → Prop} {D : va_G} {tys : List (ClassId × FieldType)} {ws wc wr : va_W} {S : Type} {w1 : S → va_W}
theorem st_calli {post : Int32 → S → Prop} (hr : va_Run p l e R s m args below meth c H locs cells slots 0 0 (F0 m pc ls st0) rest (va_Qi post (fun u t => st_W D tys wc H.size (w1 u) t) (va_A wc H.size) a) (va_A wc H.size)) (hP : va_P D vwCl ws H) (hD : va_D A0 ws) (hS : va_S A0 H0 H locs) (hA : ∀ q, H0.size ≤ q → A0 q) (isC isR : List Nat) (hC : isC.map (fun i => ws[i]?) = wc.map some) (hR : isR.map (fun i => ws[i]?) = wr.map some) (hn : va_nd isR = true) (hdis : ∀ i ∈ isR, i ∉ isC)
    (kk : ∀ (r : Int32) (u : S) (H1 : Heap) (locs1 : List Loc), post r u → va_P D vwCl (wr ++ w1 u) H1 → va_D A0 (wr ++ w1 u) → va_S A0 H0 H1 locs1 → W p l e R s m args below meth c H1 locs1 cells slots Q (F0 m (pc + 3) ls (.int r :: rest))) : W p l e R s m args below meth c H locs cells slots Q (F0 m pc ls st0) := by
  have hFc := va_free (wc := wc) hD hS hA isC hC
  refine va_calli hr hS (fun q _ h => hFc q h) hFc (fun r u t H1 locs1 ht hvm hw hB hz1 hk1 hS1 => ?_)
  obtain ⟨hP1, hK1, hD1⟩ := hB
  rw [ht] at hP1
  obtain ⟨hP2, hD2⟩ := va_join (wr := wr) (w1 := w1 u) hP hD isC isR hC hR hn hdis hk1 hFc hP1 hD1
  exact kk r u H1 locs1 hw hP2 hD2 hS1
theorem st_calll {post : Int64 → S → Prop} (hr : va_Run p l e R s m args below meth c H locs cells slots 0 0 (F0 m pc ls st0) rest (va_Ql post (fun u t => st_W D tys wc H.size (w1 u) t) (va_A wc H.size) a) (va_A wc H.size)) (hP : va_P D vwCl ws H) (hD : va_D A0 ws) (hS : va_S A0 H0 H locs) (hA : ∀ q, H0.size ≤ q → A0 q) (isC isR : List Nat) (hC : isC.map (fun i => ws[i]?) = wc.map some) (hR : isR.map (fun i => ws[i]?) = wr.map some) (hn : va_nd isR = true) (hdis : ∀ i ∈ isR, i ∉ isC)
    (kk : ∀ (r : Int64) (u : S) (H1 : Heap) (locs1 : List Loc), post r u → va_P D vwCl (wr ++ w1 u) H1 → va_D A0 (wr ++ w1 u) → va_S A0 H0 H1 locs1 → W p l e R s m args below meth c H1 locs1 cells slots Q (F0 m (pc + 3) ls (.long r :: rest))) : W p l e R s m args below meth c H locs cells slots Q (F0 m pc ls st0) := by
  have hFc := va_free (wc := wc) hD hS hA isC hC
  refine va_calll hr hS (fun q _ h => hFc q h) hFc (fun r u t H1 locs1 ht hvm hw hB hz1 hk1 hS1 => ?_)
  obtain ⟨hP1, hK1, hD1⟩ := hB
  rw [ht] at hP1
  obtain ⟨hP2, hD2⟩ := va_join (wr := wr) (w1 := w1 u) hP hD isC isR hC hR hn hdis hk1 hFc hP1 hD1
  exact kk r u H1 locs1 hw hP2 hD2 hS1
theorem st_callv {post : S → Prop} (hr : va_Run p l e R s m args below meth c H locs cells slots 0 0 (F0 m pc ls st0) rest (va_Qv post (fun u t => st_W D tys wc H.size (w1 u) t) (va_A wc H.size) a) (va_A wc H.size)) (hP : va_P D vwCl ws H) (hD : va_D A0 ws) (hS : va_S A0 H0 H locs) (hA : ∀ q, H0.size ≤ q → A0 q) (isC isR : List Nat) (hC : isC.map (fun i => ws[i]?) = wc.map some) (hR : isR.map (fun i => ws[i]?) = wr.map some) (hn : va_nd isR = true) (hdis : ∀ i ∈ isR, i ∉ isC)
    (kk : ∀ (u : S) (H1 : Heap) (locs1 : List Loc), post u → va_P D vwCl (wr ++ w1 u) H1 → va_D A0 (wr ++ w1 u) → va_S A0 H0 H1 locs1 → W p l e R s m args below meth c H1 locs1 cells slots Q (F0 m (pc + 3) ls (rest))) : W p l e R s m args below meth c H locs cells slots Q (F0 m pc ls st0) := by
  have hFc := va_free (wc := wc) hD hS hA isC hC
  refine va_callv hr hS (fun q _ h => hFc q h) hFc (fun u t H1 locs1 ht hvm hw hB hz1 hk1 hS1 => ?_)
  obtain ⟨hP1, hK1, hD1⟩ := hB
  rw [ht] at hP1
  obtain ⟨hP2, hD2⟩ := va_join (wr := wr) (w1 := w1 u) hP hD isC isR hC hR hn hdis hk1 hFc hP1 hD1
  exact kk u H1 locs1 hw hP2 hD2 hS1
theorem st_callr {ra0 : Nat} {post : S → Prop} (hr : va_Run p l e R s m args below meth c H locs cells slots 0 0 (F0 m pc ls st0) rest (va_Qr post (fun u x t => x = ra0 ∧ st_W D tys wc H.size (w1 u) t) (va_A wc H.size) a) (va_A wc H.size)) (hP : va_P D vwCl ws H) (hD : va_D A0 ws) (hS : va_S A0 H0 H locs) (hA : ∀ q, H0.size ≤ q → A0 q) (isC isR : List Nat) (hC : isC.map (fun i => ws[i]?) = wc.map some) (hR : isR.map (fun i => ws[i]?) = wr.map some) (hn : va_nd isR = true) (hdis : ∀ i ∈ isR, i ∉ isC)
    (kk : ∀ (u : S) (H1 : Heap) (locs1 : List Loc), post u → va_P D vwCl (wr ++ w1 u) H1 → va_D A0 (wr ++ w1 u) → va_S A0 H0 H1 locs1 → W p l e R s m args below meth c H1 locs1 cells slots Q (F0 m (pc + 3) ls (.ref ra0 :: rest))) : W p l e R s m args below meth c H locs cells slots Q (F0 m pc ls st0) := by
  have hFc := va_free (wc := wc) hD hS hA isC hC
  refine va_callr hr hS (fun q _ h => hFc q h) hFc (fun u x t H1 locs1 ht hvm hw hB hz1 hk1 hS1 => ?_)
  obtain ⟨hx0, hP1, hK1, hD1⟩ := hB
  subst hx0
  rw [ht] at hP1
  obtain ⟨hP2, hD2⟩ := va_join (wr := wr) (w1 := w1 u) hP hD isC isR hC hR hn hdis hk1 hFc hP1 hD1
  exact kk u H1 locs1 hw hP2 hD2 hS1
end STC
-- numbers
theorem q_nle {a x : Int32} (h : ¬ a ≤ x) : x.toInt < a.toInt := by rw [Int32.le_iff_toInt_le] at h; omega
theorem q_nlt {a x : Int32} (h : ¬ x < a) : a.toInt ≤ x.toInt := by rw [Int32.lt_iff_toInt_lt] at h; omega
theorem q_le {a x : Int32} (h : a ≤ x) : a.toInt ≤ x.toInt := Int32.le_iff_toInt_le.mp h
theorem q_lt {a x : Int32} (h : a < x) : a.toInt < x.toInt := Int32.lt_iff_toInt_lt.mp h
theorem q_in {x : Int32} {n : Nat} (h0 : 0 ≤ x.toInt) (h1 : x.toInt < n) : vp_in x n := vp_in_iff.mpr ⟨h0, h1⟩
theorem q_bm {z : Int} (h0 : -2147483648 ≤ z) (h1 : z < 2147483648) : z.bmod 4294967296 = z := by
  rw [Int.bmod_def]; omega
theorem q_add {x y : Int32} (h0 : -2147483648 ≤ x.toInt + y.toInt) (h1 : x.toInt + y.toInt < 2147483648) : (x + y).toInt = x.toInt + y.toInt := by
  rw [Int32.toInt_add]; exact q_bm h0 h1
theorem q_sub {x y : Int32} (h0 : -2147483648 ≤ x.toInt - y.toInt) (h1 : x.toInt - y.toInt < 2147483648) : (x - y).toInt = x.toInt - y.toInt := by
  rw [Int32.toInt_sub]; exact q_bm h0 h1
theorem q_mul {x y : Int32} (h0 : -2147483648 ≤ x.toInt * y.toInt) (h1 : x.toInt * y.toInt < 2147483648) : (x * y).toInt = x.toInt * y.toInt := by
  rw [Int32.toInt_mul]; exact q_bm h0 h1
theorem q_mulc {x c : Int32} {k : Int} (hc : c.toInt = k) (h0 : -2147483648 ≤ x.toInt * k) (h1 : x.toInt * k < 2147483648) : (x * c).toInt = x.toInt * k := by
  subst hc; exact q_mul h0 h1
theorem q_of {x : Int32} {n : Nat} (h0 : 0 ≤ x.toInt) (h1 : x.toInt < n) (hn : n ≤ 2147483648) : ∃ j : Nat, j < n ∧ x = nI j := by
  refine ⟨x.toInt.toNat, by omega, ?_⟩
  apply Int32.toInt_inj.mp
  rw [nI_toInt (by omega)]
  omega
theorem q_j {x : Int32} {j N : Nat} (e : x = nI j) (hj : j < 2147483648) (hN : N < 2147483648) (h : ¬ nI N ≤ x) : j < N := by
  rw [e] at h
  have := mt (nI_leI (a := N) (b := j) (by omega) (by omega)).mpr h
  omega
theorem q_jlt {x : Int32} {j N : Nat} (e : x = nI j) (hj : j < 2147483648) (hN : N < 2147483648) (h : x < nI N) : j < N := by
  rw [e] at h
  exact (nI_ltI (a := j) (b := N) (by omega) (by omega)).mp h
theorem q_cl {x : Int32} {n : Nat} (h : vp_in x n) : x.toNatClampNeg < n := Nat.not_le.mp fun q => h (Or.inr q)
theorem q_clv {x : Int32} (h : 0 ≤ x.toInt) : (x.toNatClampNeg : Int) = x.toInt := by
  rw [Int32.toNatClampNeg]
  exact Int.toNat_of_nonneg h

def okb (x : Int32) : Prop := narrow .boolean (.int x) = .int x
theorem q_i1 {x a : Int32} {n : Nat} (h0 : ¬ x < 0) (h1 : x < a) (ha : a.toInt = n) : vp_in x n := by
  have a0 := q_nlt h0
  have a1 := q_lt h1
  have z : (0 : Int32).toInt = 0 := by decide
  exact q_in (by omega) (by omega)
theorem q_i2 {x a : Int32} {n : Nat} (h0 : ¬ x < 0) (h1 : ¬ a ≤ x) (ha : a.toInt = n) : vp_in x n := by
  have a0 := q_nlt h0
  have a1 := q_nle h1
  have z : (0 : Int32).toInt = 0 := by decide
  exact q_in (by omega) (by omega)
theorem q_i3 {x a : Int32} {n : Nat} (h0 : 0 ≤ x.toInt) (h1 : ¬ a ≤ x) (ha : a.toInt = n) : vp_in x n := by
  have a1 := q_nle h1
  exact q_in h0 (by omega)
theorem q_i5 {x y : Int32} {n : Nat} (h0 : ¬ x < 0) (h1 : x < y) (hy : y.toInt ≤ n) : vp_in x n := by
  have a0 := q_nlt h0
  have a1 := q_lt h1
  have z : (0 : Int32).toInt = 0 := by decide
  exact q_in (by omega) (by omega)
theorem q_z0 {n : Nat} (h : 0 < n) : vp_in 0 n := by
  have z : (0 : Int32).toInt = 0 := by decide
  exact q_in (by omega) (by omega)
theorem q_wk {x : Int32} {n k : Nat} (h : vp_in x n) (hk : n ≤ k) : vp_in x k := by
  rw [vp_in_iff] at h ⊢; omega
theorem q_dv {x d : Int32} {n k : Nat} (h : vp_in x n) (hd : d.toInt = (k : Int)) (h0 : 0 < k) (hn : n ≤ 2147483648) : (x / d).toInt = x.toInt / (k : Int) := by
  rw [vp_in_iff] at h
  obtain ⟨j, hj, rfl⟩ := q_of h.1 h.2 hn
  have e : d = nI k := by
    apply Int32.toInt_inj.mp
    have hb := Int32.toInt_lt d
    rw [nI_toInt (by omega)]; exact hd
  have hb := Int32.toInt_lt d
  rw [e, pk_div (by omega) h0 (by omega), nI_toInt (by have := Nat.div_le_self j k; omega), nI_toInt (by omega)]
  omega
theorem q_d8 {x : Int32} {n k : Nat} (h : vp_in x n) (hk : n ≤ 8 * k ∧ n ≤ 2147483648) : vp_in (x / 8) k := by
  have e := q_dv (d := 8) (k := 8) h (by decide) (by decide) hk.2
  rw [vp_in_iff] at h ⊢
  rw [e]; omega
theorem q_p8 {x : Int32} (h : vp_in x 200) : vp_in (x * 8) 1600 := by
  rw [vp_in_iff] at h ⊢
  have e8 : (8 : Int32).toInt = 8 := by decide
  rw [q_mulc (k := 8) (by decide) (by omega) (by omega)]; omega
theorem q_p8k {x y : Int32} (h : vp_in x 200) (h2 : vp_in y 8) : vp_in ((x * 8) + y) 1600 := by
  have h1 := q_p8 h
  rw [vp_in_iff] at h h1 h2 ⊢
  have e8 : (8 : Int32).toInt = 8 := by decide
  have em : (x * 8).toInt = x.toInt * 8 := by rw [q_mulc (k := 8) (by decide) (by omega) (by omega)]
  rw [q_add (by omega) (by omega), em]; omega
theorem q_p8k1 {x y : Int32} (h : vp_in x 200) (h2 : vp_in y 8) (h3 : ¬ 8 ≤ (y + 1)) : vp_in (((x * 8) + y) + 1) 1600 := by
  have h1 := q_p8k h h2
  have a := q_nle h3
  rw [vp_in_iff] at h h1 h2 ⊢
  have e8 : (8 : Int32).toInt = 8 := by decide
  have e1 : (1 : Int32).toInt = 1 := by decide
  have em : (x * 8).toInt = x.toInt * 8 := by rw [q_mulc (k := 8) (by decide) (by omega) (by omega)]
  have ea : ((x * 8) + y).toInt = x.toInt * 8 + y.toInt := by rw [q_add (by omega) (by omega), em]
  have eb : (y + 1).toInt = y.toInt + 1 := by rw [q_add (by omega) (by omega), e1]
  rw [q_add (by omega) (by omega), ea, e1]; omega
theorem q_t1 {x : Int32} (h : 0 < x) : ¬ (x - 1) < 0 := by
  have a := q_lt h
  have e0 : (0 : Int32).toInt = 0 := by decide
  have e1 : (1 : Int32).toInt = 1 := by decide
  have b := Int32.toInt_lt x
  rw [Int32.lt_iff_toInt_lt, q_sub (by omega) (by omega)]; omega
theorem q_ts {x : Int32} (h : 0 < x) : (x - 1).toInt = x.toInt - 1 ∧ 0 < x.toInt := by
  have a := q_lt h
  have e0 : (0 : Int32).toInt = 0 := by decide
  have e1 : (1 : Int32).toInt = 1 := by decide
  have b := Int32.toInt_lt x
  rw [q_sub (by omega) (by omega)]; omega
theorem q_t2 {x : Int32} (h : 0 < x) (h4 : x.toInt ≤ 40) : (1 : Int32).toNatClampNeg + ((x - 1) : Int32).toNatClampNeg ≤ 40 := by
  have a := q_ts h
  have b := q_clv (x := x - 1) (by omega)
  have c : (1 : Int32).toNatClampNeg = 1 := by decide
  omega
theorem q_t3 {x : Int32} (h : 0 < x) (h4 : x.toInt ≤ 40) : (0 : Int32).toNatClampNeg + ((x - 1) : Int32).toNatClampNeg ≤ 40 := by
  have a := q_ts h
  have b := q_clv (x := x - 1) (by omega)
  have c : (0 : Int32).toNatClampNeg = 0 := by decide
  omega
theorem q_ap {x : Int32} (h0 : 0 ≤ x.toInt) (h1 : x.toInt ≤ 96) (h : (x + 4) ≤ 96) : x.toInt + 4 ≤ 96 := by
  have a := q_le h
  have e4 : (4 : Int32).toInt = 4 := by decide
  have e96 : (96 : Int32).toInt = 96 := by decide
  rw [q_add (by omega) (by omega), e4, e96] at a; exact a
theorem q_apb {v z : Int32} {j n : Nat} (h : 0 ≤ v.toInt) (ev : v.toInt = 8 * (j : Int) - 8) (hn : j < n + 1) (h0 : 0 ≤ z.toInt) (h1 : z.toInt + j ≤ 96) : ∃ i : Nat, (v + (-8)).toInt = 8 * (i : Int) - 8 ∧ i < n ∧ 0 ≤ (z + 1).toInt ∧ (z + 1).toInt + i ≤ 96 := by
  have em : (-8 : Int32).toInt = -8 := by decide
  have e1 : (1 : Int32).toInt = 1 := by decide
  refine ⟨j - 1, ?_, by omega, ?_, ?_⟩
  · rw [q_add (by omega) (by omega), em]; omega
  · rw [q_add (by omega) (by omega), e1]; omega
  · rw [q_add (by omega) (by omega), e1]; omega
theorem q_nt {x : Int32} (h : ¬ x < 0) : x = nI x.toInt.toNat := by
  have a := q_nlt h
  have e0 : (0 : Int32).toInt = 0 := by decide
  have b := Int32.toInt_lt x
  apply Int32.toInt_inj.mp
  rw [nI_toInt (by omega)]; omega
theorem q_num {x y : Int32} (h0 : 0 ≤ y.toInt) (h1 : y.toInt ≤ 51) (hx : ¬ x < 0) (h : x ≤ (51 - y)) : (x + y).toInt = x.toInt + y.toInt ∧ 0 ≤ x.toInt ∧ x.toInt + y.toInt ≤ 51 := by
  have a := q_nlt hx
  have b := q_le h
  have e0 : (0 : Int32).toInt = 0 := by decide
  have e51 : (51 : Int32).toInt = 51 := by decide
  rw [q_sub (by omega) (by omega), e51] at b
  rw [q_add (by omega) (by omega)]; omega
theorem q_w1 {x : Int32} (h0 : ¬ x < 0) (h1 : ¬ 4 ≤ x) : ¬ (x * 2) < 0 := by
  have a := q_nlt h0
  have b := q_nle h1
  have e0 : (0 : Int32).toInt = 0 := by decide
  have e2 : (2 : Int32).toInt = 2 := by decide
  have e4 : (4 : Int32).toInt = 4 := by decide
  rw [Int32.lt_iff_toInt_lt, q_mulc (k := 2) (by decide) (by omega) (by omega)]; omega
theorem q_we {x : Int32} (h0 : ¬ x < 0) (h1 : ¬ 4 ≤ x) : (x * 2).toInt = x.toInt * 2 ∧ 0 ≤ x.toInt ∧ x.toInt < 4 := by
  have a := q_nlt h0
  have b := q_nle h1
  have e0 : (0 : Int32).toInt = 0 := by decide
  have e2 : (2 : Int32).toInt = 2 := by decide
  have e4 : (4 : Int32).toInt = 4 := by decide
  rw [q_mulc (k := 2) (by decide) (by omega) (by omega)]; omega
theorem q_we2 {p x : Int32} (hp : vp_in p 200) (h0 : ¬ x < 0) (h1 : ¬ 4 ≤ x) : ((p * 8) + (x * 2)).toInt = p.toInt * 8 + x.toInt * 2 ∧ 0 ≤ p.toInt ∧ p.toInt < 200 := by
  have a := q_we h0 h1
  rw [vp_in_iff] at hp
  have e8 : (8 : Int32).toInt = 8 := by decide
  have em : (p * 8).toInt = p.toInt * 8 := by rw [q_mulc (k := 8) (by decide) (by omega) (by omega)]
  rw [q_add (by omega) (by omega), em]; omega
theorem q_w2 {p x : Int32} (hp : vp_in p 200) (h0 : ¬ x < 0) (h1 : ¬ 4 ≤ x) : ¬ ((p * 8) + (x * 2)) < 0 := by
  have a := q_we2 hp h0 h1
  have b := q_we h0 h1
  have e0 : (0 : Int32).toInt = 0 := by decide
  rw [Int32.lt_iff_toInt_lt]; omega
theorem q_w4 {x : Int32} (h0 : ¬ x < 0) (h1 : ¬ 4 ≤ x) : ((x * 2) : Int32).toNatClampNeg + (2 : Int32).toNatClampNeg ≤ 8 := by
  have b := q_we h0 h1
  have c := q_clv (x := x * 2) (by omega)
  have d : (2 : Int32).toNatClampNeg = 2 := by decide
  omega
theorem q_w5 {p x : Int32} (hp : vp_in p 200) (h0 : ¬ x < 0) (h1 : ¬ 4 ≤ x) : (((p * 8) + (x * 2)) : Int32).toNatClampNeg + (2 : Int32).toNatClampNeg ≤ 1600 := by
  have a := q_we2 hp h0 h1
  have b := q_we h0 h1
  have c := q_clv (x := (p * 8) + (x * 2)) (by omega)
  have d : (2 : Int32).toNatClampNeg = 2 := by decide
  omega
theorem q_21 {x : Int32} (h : vp_in x 64) : vp_in (21 + x) 85 := by
  rw [vp_in_iff] at h ⊢
  have e : (21 : Int32).toInt = 21 := by decide
  rw [q_add (by omega) (by omega), e]; omega
theorem q_bel {x : Int32} {j : Nat} (h : vp_in x 21) (hj : j < 4) : vp_in (((x * 4) + 1) + nI j) 85 := by
  rw [vp_in_iff] at h ⊢
  have e4 : (4 : Int32).toInt = 4 := by decide
  have e1 : (1 : Int32).toInt = 1 := by decide
  have ej := nI_toInt (n := j) (by omega)
  have em : (x * 4).toInt = x.toInt * 4 := by rw [q_mulc (k := 4) (by decide) (by omega) (by omega)]
  have ea : ((x * 4) + 1).toInt = x.toInt * 4 + 1 := by rw [q_add (by omega) (by omega), em, e1]
  rw [q_add (by omega) (by omega), ea, ej]; omega
theorem q_fk {v : Int32} {n : Nat} (h0 : 0 ≤ v.toInt) (h1 : v.toInt < 801) (h2 : 802 ≤ v.toInt + ((n + 1 : Nat) : Int)) (h3 : 0 < n) : 0 ≤ (v + 1).toInt ∧ 802 ≤ (v + 1).toInt + (n : Int) ∧ 0 < n := by
  have e1 : (1 : Int32).toInt = 1 := by decide
  rw [q_add (by omega) (by omega), e1]; omega
theorem q_jge {x : Int32} {j N : Nat} (e : x = nI j) (hj : j < 2147483648) (hN : N < 2147483648) (h : nI N ≤ x) : N ≤ j := by
  rw [e] at h
  exact (nI_leI (a := N) (b := j) (by omega) (by omega)).mp h
theorem q_jgt {x : Int32} {j N : Nat} (e : x = nI j) (hj : j < 2147483648) (hN : N < 2147483648) (h : ¬ nI N < x) : j < N + 1 := by
  rw [e] at h
  have := mt (nI_ltI (a := N) (b := j) (by omega) (by omega)).mpr h
  omega
theorem q_trz {f : Nat → Int32} {x : Int32} {j : Nat} (h : ∀ q, q < j → 0 ≤ (f q).toInt) (e : x = nI j) (hj : j < 2147483648) : ∀ q, q < j + 1 → 0 ≤ (upd f (x : Int32).toNatClampNeg 0 q).toInt := by
  intro q hq
  unfold upd
  split
  · decide
  · rename_i hne
    rw [e, nI_clamp (by omega)] at hne
    exact h q (by omega)
theorem q_mod {x : Int32} {j : Nat} (h : vp_in x 200) (hj : j < 201) : vp_in ((x + nI j) - (x + nI j) / 200 * 200) 200 := by
  rw [vp_in_iff] at h
  obtain ⟨k, hk, rfl⟩ := q_of h.1 h.2 (by decide)
  rw [nI_add, show (200 : Int32) = nI 200 from rfl, pk_rem (by omega) (by decide) (by decide)]
  exact vp_in_nI (Nat.mod_lt _ (by decide)) (by decide)
theorem q_dn {v : Int32} {j n : Nat} {q : Prop} (h : 0 ≤ v.toInt) (ev : v.toInt = (j : Int) - 1) (hn : j < n + 1) (hq : q) : ∃ i : Nat, (v + (-1)).toInt = (i : Int) - 1 ∧ i < n ∧ q := by
  have em : (-1 : Int32).toInt = -1 := by decide
  have hb := Int32.toInt_lt v
  refine ⟨j - 1, ?_, by omega, hq⟩
  rw [q_add (by omega) (by omega), em]; omega
theorem q_dn2 {v : Int32} {j n : Nat} {q r : Prop} (h : 0 ≤ v.toInt) (ev : v.toInt = (j : Int) - 1) (h2 : j ≤ 2) (hn : j < n + 1) (hq : q) (hr : r) : ∃ i : Nat, (v + (-1)).toInt = (i : Int) - 1 ∧ i ≤ 2 ∧ i < n ∧ q ∧ r := by
  have em : (-1 : Int32).toInt = -1 := by decide
  have hb := Int32.toInt_lt v
  refine ⟨j - 1, ?_, by omega, by omega, hq, hr⟩
  rw [q_add (by omega) (by omega), em]; omega
theorem q_wd {r : Int32} {q s : Prop} (h : r.toInt = 1 ∨ r.toInt = 2) (hq : q) (hs : s) : ∃ i : Nat, (r - 1).toInt = (i : Int) - 1 ∧ i ≤ 2 ∧ i < 4 ∧ q ∧ s := by
  have e1 : (1 : Int32).toInt = 1 := by decide
  refine ⟨r.toInt.toNat, ?_, by omega, by omega, hq, hs⟩
  rw [q_sub (by omega) (by omega), e1]; omega
theorem q_sw8 {x : Int32} (h0 : ¬ x = 0) (h1 : ¬ x = 1) (h2 : ¬ x = 2) (h3 : ¬ x = 3) (h4 : ¬ x = 4) (h5 : ¬ x = 5) (h6 : ¬ x = 6) (h7 : ¬ x = 7) : x.toInt < 0 ∨ 7 < x.toInt := by
  by_cases a : x.toInt < 0
  · exact Or.inl a
  · by_cases b : 7 < x.toInt
    · exact Or.inr b
    · exfalso
      have e : ∀ k : Int32, x.toInt = k.toInt → x = k := fun k h => Int32.toInt_inj.mp h
      have c : x.toInt = 0 ∨ x.toInt = 1 ∨ x.toInt = 2 ∨ x.toInt = 3 ∨ x.toInt = 4 ∨ x.toInt = 5 ∨ x.toInt = 6 ∨ x.toInt = 7 := by omega
      rcases c with c | c | c | c | c | c | c | c
      · exact h0 (e 0 (by rw [c]; decide))
      · exact h1 (e 1 (by rw [c]; decide))
      · exact h2 (e 2 (by rw [c]; decide))
      · exact h3 (e 3 (by rw [c]; decide))
      · exact h4 (e 4 (by rw [c]; decide))
      · exact h5 (e 5 (by rw [c]; decide))
      · exact h6 (e 6 (by rw [c]; decide))
      · exact h7 (e 7 (by rw [c]; decide))
theorem q_min48 (x : Int32) : (if x < 48 then x else 48).toInt ≤ 96 := by
  split
  · rename_i h
    have := q_lt h
    have e : (48 : Int32).toInt = 48 := by decide
    omega
  · decide

