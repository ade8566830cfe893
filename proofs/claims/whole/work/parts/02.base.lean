/-! The heap of the class and of the reference, as one picture: cells by their number of making; groups of what they hold. Own text. -/
abbrev Grp : Type := (Nat → Nat → Int32) × (Nat → Nat → Int64) × (Nat → Nat → Option Nat)
abbrev St : Type := Nat → Grp
def gI (G : Grp) (a k : Nat) (x : Int32) : Grp := (fun b j => if b = a ∧ j = k then x else G.1 b j, G.2)
def gJ (G : Grp) (a k : Nat) (x : Int64) : Grp := (G.1, fun b j => if b = a ∧ j = k then x else G.2.1 b j, G.2.2)
def gR (G : Grp) (a k : Nat) (x : Option Nat) : Grp := (G.1, G.2.1, fun b j => if b = a ∧ j = k then x else G.2.2 b j)
def sg (σ : St) (g : Nat) (X : Grp) : St := fun j => if j = g then X else σ j
def rfv (b : Nat) (o : Option Nat) : Value := va_rf (o.map (fun x => b + x))
def ups {α : Type} (i : Nat → Nat → α) (g k : Nat) (x : α) : Nat → Nat → α := fun h j => if h = g then (if j = k then x else i g j) else i h j
abbrev EntF : Type := Nat → (Nat → ClassId) → (Nat → Nat → Int32) → (Nat → Nat → Int64) → (Nat → Nat → Option Nat) → va_E
def eK0 : EntF := fun b y i j r => .inr (0, [rfv b (r 0 0), rfv b (r 0 1), .int (i 17 2), rfv b (r 0 3), rfv b (r 0 4), .int (i 17 5), .int (i 17 6), .int (i 17 7)])
def eK1 : EntF := fun b y i j r => .inr (1, [.long (j 18 0), .long (j 18 1), .long (j 18 2), rfv b (r 0 3), rfv b (r 0 4), rfv b (r 0 5), rfv b (r 0 6), .int (i 19 7), .int (i 19 8), rfv b (r 0 9), rfv b (r 0 10), rfv b (r 0 11), rfv b (r 0 12)])
def eK2 : EntF := fun b y i j r => .inr (2, [.int (i 5 0), rfv b (r 0 1), rfv b (r 0 2), rfv b (r 0 3), rfv b (r 0 4), rfv b (r 0 5), rfv b (r 0 6), rfv b (r 5 7), rfv b (r 5 8)])
def eK3 : EntF := fun b y i j r => .inr (3, [.int (i 6 0), rfv b (r 0 1), rfv b (r 0 2), .int (i 6 3), rfv b (r 0 4), .int (i 6 5), rfv b (r 0 6), rfv b (r 0 7), rfv b (r 0 8), rfv b (r 0 9), .int (i 7 10), rfv b (r 0 11), .int (i 8 12), rfv b (r 0 13), rfv b (r 0 14), rfv b (r 0 15)])
def eK4 : EntF := fun b y i j r => .inr (4, [rfv b (r 13 0), .int (i 13 1), .int (i 13 2), rfv b (r 0 3), rfv b (r 0 4), rfv b (r 0 5), .int (i 13 6), .int (i 13 7), .int (i 13 8), .int (i 13 9), .int (i 13 10), .int (i 13 11)])
def eK5 : EntF := fun b y i j r => .inr (5, [.int (i 9 0), .int (i 9 1), .int (i 9 2), .int (i 9 3), .int (i 9 4), .int (i 9 5), .int (i 9 6), .int (i 9 7), .int (i 9 8)])
def eK6 : EntF := fun b y i j r => .inr (6, [rfv b (r 0 0), .int (i 10 1), .int (i 11 2), rfv b (r 0 3), rfv b (r 0 4), rfv b (r 0 5), rfv b (r 0 6), rfv b (r 0 7), rfv b (r 0 8), rfv b (r 0 9), rfv b (r 0 10)])
def eK7 : EntF := fun b y i j r => .inr (7, [rfv b (r 0 0), rfv b (r 0 1), rfv b (r 0 2), .int (i 4 3), rfv b (r 0 4), rfv b (r 0 5), rfv b (r 0 6), .int (i 4 7), rfv b (r 4 8), .int (i 4 9), .int (i 4 10), .int (i 4 11), .int (i 4 12), .int (i 4 13), .int (i 4 14), .int (i 4 15), rfv b (r 0 16), rfv b (r 0 17), rfv b (r 0 18)])
def eK8 : EntF := fun b y i j r => .inr (8, [.int (i 22 0), .int (i 22 1), rfv b (r 0 2)])
def eK9 : EntF := fun b y i j r => .inr (9, [.int (i 16 0), rfv b (r 0 1), rfv b (r 0 2), rfv b (r 0 3), rfv b (r 0 4), rfv b (r 0 5)])
def eK10 : EntF := fun b y i j r => .inr (10, [rfv b (r 0 0), rfv b (r 0 1), rfv b (r 0 2), rfv b (r 0 3), rfv b (r 0 4), rfv b (r 0 5)])
def eK11 : EntF := fun b y i j r => .inr (11, [.int (i 1 0), rfv b (r 0 1), .int (i 1 2), rfv b (r 0 3), rfv b (r 1 4), rfv b (r 1 5), rfv b (r 0 6), rfv b (r 0 7), rfv b (r 0 8), rfv b (r 0 9), rfv b (r 0 10), rfv b (r 0 11), rfv b (r 0 12)])
def eK12 : EntF := fun b y i j r => .inr (12, [.int (i 23 0), .int (i 24 1), .int (i 24 2), .int (i 24 3), .int (i 25 4), rfv b (r 0 5), rfv b (r 0 6), rfv b (r 0 7), rfv b (r 0 8), rfv b (r 0 9), rfv b (r 0 10), rfv b (r 0 11), rfv b (r 0 12), rfv b (r 0 13), rfv b (r 0 14), rfv b (r 0 15), rfv b (r 0 16), rfv b (r 0 17), rfv b (r 0 18), rfv b (r 0 19), .int (i 27 20), .int (i 28 21), .int (i 28 22), .int (i 28 23), rfv b (r 0 24), rfv b (r 0 25), rfv b (r 0 26), rfv b (r 0 27), rfv b (r 0 28), rfv b (r 0 29), rfv b (r 0 30), rfv b (r 0 31), rfv b (r 0 32), rfv b (r 0 33), rfv b (r 0 34), rfv b (r 0 35), rfv b (r 0 36), .int (i 29 37), .int (i 29 38), .int (i 28 39), .int (i 28 40), .int (i 28 41), rfv b (r 0 42), rfv b (r 0 43), rfv b (r 0 44), rfv b (r 0 45), .int (i 30 46), rfv b (r 0 47), rfv b (r 0 48), rfv b (r 0 49), rfv b (r 0 50), .int (i 30 51), .int (i 31 52), rfv b (r 0 53), rfv b (r 0 54), rfv b (r 0 55), rfv b (r 0 56), .int (i 32 57), .int (i 35 58), rfv b (r 0 59), rfv b (r 0 60), rfv b (r 0 61), rfv b (r 0 62), rfv b (r 0 63), rfv b (r 0 64), rfv b (r 0 65), rfv b (r 0 66), rfv b (r 0 67), rfv b (r 0 68), rfv b (r 0 69), rfv b (r 0 70), rfv b (r 0 71), rfv b (r 0 72), rfv b (r 0 73), rfv b (r 0 74), rfv b (r 0 75), .int (i 37 76), rfv b (r 0 77), rfv b (r 0 78), rfv b (r 0 79), rfv b (r 0 80), rfv b (r 0 81), rfv b (r 0 82), rfv b (r 0 83), rfv b (r 0 84), .int (i 38 85), .long (j 39 86), .long (j 39 87), .long (j 39 88), rfv b (r 0 89), rfv b (r 0 90), rfv b (r 0 91), rfv b (r 0 92), .int (i 40 93), rfv b (r 0 94), rfv b (r 0 95), rfv b (r 0 96), rfv b (r 0 97), .int (i 41 98), rfv b (r 0 99), rfv b (r 0 100), rfv b (r 0 101), rfv b (r 0 102), rfv b (r 0 103), rfv b (r 0 104), rfv b (r 0 105), rfv b (r 0 106), .int (i 43 107), .int (i 43 108), .int (i 44 109), .int (i 44 110), rfv b (r 0 111), .int (i 44 112), .int (i 44 113)])
def eK13 : EntF := fun b y i j r => .inl (y 2, ((r 3 0).getD 0), .inl (i 3))
def eK14 : EntF := fun b y i j r => .inl (y 0, 8, .inl (i 2))
def eK15 : EntF := fun b y i j r => .inl (y 0, 408, .inl (i 4))
def eK16 : EntF := fun b y i j r => .inl (y 0, 12, .inl (i 4))
def eK17 : EntF := fun b y i j r => .inl (y 0, 7, .inl (i 4))
def eK18 : EntF := fun b y i j r => .inl (y 0, 160, .inl (i 5))
def eK19 : EntF := fun b y i j r => .inl (y 0, 408, .inl (i 5))
def eK20 : EntF := fun b y i j r => .inl (y 0, 6, .inl (i 6))
def eK21 : EntF := fun b y i j r => .inl (y 0, 16, .inl (i 6))
def eK22 : EntF := fun b y i j r => .inl (y 6, 40, .inr (.inr (.inr (.inr (fun k => (r 7 k).map (fun x => b + x))))))
def eK23 : EntF := fun b y i j r => .inl (y 0, 100, .inl (i 8))
def eK24 : EntF := fun b y i j r => .inl (y 5, 200, .inr (.inr (.inr (.inr (fun k => (r 10 k).map (fun x => b + x))))))
def eK25 : EntF := fun b y i j r => .inl (y 0, 200, .inl (i 11))
def eK26 : EntF := fun b y i j r => .inl (y 4, 200, .inl (i 11))
def eK27 : EntF := fun b y i j r => .inl (y 0, 32, .inl (i 12))
def eK28 : EntF := fun b y i j r => .inl (y 0, 128, .inl (i 12))
def eK29 : EntF := fun b y i j r => .inl (y 1, 6, .inr (.inl (j 16)))
def eK30 : EntF := fun b y i j r => .inl (y 0, 6, .inl (i 16))
def eK31 : EntF := fun b y i j r => .inl (y 5, 6, .inr (.inr (.inr (.inr (fun k => (r 16 k).map (fun x => b + x))))))
def eK32 : EntF := fun b y i j r => .inl (y 0, 6, .inl (i 17))
def eK33 : EntF := fun b y i j r => .inl (y 0, 36, .inl (i 17))
def eK34 : EntF := fun b y i j r => .inl (y 1, 6, .inr (.inl (j 18)))
def eK35 : EntF := fun b y i j r => .inl (y 1, 16, .inr (.inl (j 18)))
def eK36 : EntF := fun b y i j r => .inl (y 0, 16, .inl (i 18))
def eK37 : EntF := fun b y i j r => .inl (y 0, 12, .inl (i 19))
def eK38 : EntF := fun b y i j r => .inl (y 4, 16, .inl (i 20))
def eK39 : EntF := fun b y i j r => .inl (y 0, 16, .inl (i 20))
def eK40 : EntF := fun b y i j r => .inl (y 0, 6, .inl (i 21))
def eK41 : EntF := fun b y i j r => .inl (y 0, 16, .inl (i 22))
def eK42 : EntF := fun b y i j r => .inl (y 0, 6, .inl (i 24))
def eK43 : EntF := fun b y i j r => .inl (y 0, 16, .inl (i 24))
def eK44 : EntF := fun b y i j r => .inl (y 0, 40, .inl (i 25))
def eK45 : EntF := fun b y i j r => .inl (y 0, 8, .inl (i 26))
def eK46 : EntF := fun b y i j r => .inl (y 3, 240, .inl (i 27))
def eK47 : EntF := fun b y i j r => .inl (y 0, 420, .inl (i 29))
def eK48 : EntF := fun b y i j r => .inl (y 0, 420, .inl (i 28))
def eK49 : EntF := fun b y i j r => .inl (y 0, 12, .inl (i 29))
def eK50 : EntF := fun b y i j r => .inl (y 0, 12, .inl (i 28))
def eK51 : EntF := fun b y i j r => .inl (y 0, 220, .inl (i 28))
def eK52 : EntF := fun b y i j r => .inl (y 0, 8, .inl (i 28))
def eK53 : EntF := fun b y i j r => .inl (y 1, 202860, .inr (.inl (j 30)))
def eK54 : EntF := fun b y i j r => .inl (y 3, 160, .inl (i 30))
def eK55 : EntF := fun b y i j r => .inl (y 0, 160, .inl (i 30))
def eK56 : EntF := fun b y i j r => .inl (y 0, 160, .inl (i 31))
def eK57 : EntF := fun b y i j r => .inl (y 0, 200, .inl (i 32))
def eK58 : EntF := fun b y i j r => .inl (y 0, 800, .inl (i 33))
def eK59 : EntF := fun b y i j r => .inl (y 0, 1200, .inl (i 34))
def eK60 : EntF := fun b y i j r => .inl (y 3, 32000, .inl (i 32))
def eK61 : EntF := fun b y i j r => .inl (y 0, 1300, .inl (i 35))
def eK62 : EntF := fun b y i j r => .inl (y 4, 1300, .inl (i 35))
def eK63 : EntF := fun b y i j r => .inl (y 0, 32, .inl (i 36))
def eK64 : EntF := fun b y i j r => .inl (y 0, 128, .inl (i 36))
def eK65 : EntF := fun b y i j r => .inl (y 0, 6, .inl (i 37))
def eK66 : EntF := fun b y i j r => .inl (y 0, 6, .inl (i 38))
def eK67 : EntF := fun b y i j r => .inl (y 1, 6, .inr (.inl (j 39)))
def eK68 : EntF := fun b y i j r => .inl (y 1, 16, .inr (.inl (j 39)))
def eK69 : EntF := fun b y i j r => .inl (y 0, 16, .inl (i 39))
def eK70 : EntF := fun b y i j r => .inl (y 0, 12, .inl (i 40))
def eK71 : EntF := fun b y i j r => .inl (y 4, 12, .inl (i 40))
def eK72 : EntF := fun b y i j r => .inl (y 0, 100, .inl (i 41))
def eK73 : EntF := fun b y i j r => .inl (y 0, 16, .inl (i 42))
def eK74 : EntF := fun b y i j r => .inl (y 0, 6, .inl (i 43))
def eK75 : EntF := fun b y i j r => .inl (y 4, 16, .inl (i 42))
def eK76 : EntF := fun b y i j r => .inl (y 0, 16, .inl (i 44))
def eK77 : EntF := fun b y i j r => .inl (y 0, 4, .inl (i 14))
def eK78 : EntF := fun b y i j r => .inl (y 0, 6, .inl (i 15))
def entL : List EntF := [eK0, eK1, eK2, eK3, eK4, eK5, eK6, eK7, eK8, eK9, eK10, eK11, eK12, eK13, eK14, eK15, eK16, eK17, eK18, eK19, eK20, eK21, eK22, eK23, eK24, eK25, eK26, eK27, eK28, eK29, eK30, eK31, eK32, eK33, eK34, eK35, eK36, eK37, eK38, eK39, eK40, eK41, eK42, eK43, eK44, eK45, eK46, eK47, eK48, eK49, eK50, eK51, eK52, eK53, eK54, eK55, eK56, eK57, eK58, eK59, eK60, eK61, eK62, eK63, eK64, eK65, eK66, eK67, eK68, eK69, eK70, eK71, eK72, eK73, eK74, eK75, eK76, eK77, eK78]
def entS (kd : Nat) : EntF := entL.getD kd eK0
def slI (σ : St) (a : Nat) : Nat → Nat → Int32 := fun g => (σ g).1 a
def slJ (σ : St) (a : Nat) : Nat → Nat → Int64 := fun g => (σ g).2.1 a
def slR (σ : St) (a : Nat) : Nat → Nat → Option Nat := fun g => (σ g).2.2 a
def ent (b : Nat) (y : Nat → ClassId) (σ : St) (kd a : Nat) : va_E := entS kd b y (slI σ a) (slJ σ a) (slR σ a)
def K0L : List Nat := [11, 13, 14, 7, 15, 15, 15, 16, 16, 16, 17, 17, 17, 7, 15, 15, 15, 16, 16, 16, 17, 17, 17, 2, 18, 18, 18, 18, 18, 18, 19, 19, 3, 20, 20, 21, 21, 21, 21, 21, 22, 23, 23, 23, 6, 24, 25, 25, 26, 27, 28, 2, 18, 18, 18, 18, 18, 18, 19, 19, 9, 29, 30, 30, 31, 0, 32, 32, 33, 32, 1, 34, 35, 36, 36, 37, 37, 37, 10, 38, 39, 39, 40, 40, 0, 32, 32, 33, 32, 8, 41, 12, 42, 42, 43, 43, 43, 43, 43, 44, 44, 44, 44, 44, 44, 45, 46, 47, 47, 47, 47, 48, 48, 48, 48, 49, 49, 50, 50, 51, 52, 52, 53, 54, 55, 55, 55, 55, 56, 56, 56, 56, 57, 57, 57, 57, 57, 57, 57, 57, 57, 58, 59, 60, 61, 61, 62, 63, 64, 65, 65, 65, 65, 66, 66, 66, 66, 67, 68, 69, 69, 70, 70, 70, 71, 72, 72, 72, 73, 73, 74, 74, 75, 76]
def K0 (a : Nat) : Nat := K0L.getD a 0
abbrev N0 : Nat := 174
def FINL : List (Nat × Nat × Nat) := [(0, 1, 1), (0, 3, 2), (0, 6, 23), (0, 7, 32), (0, 8, 44), (0, 9, 60), (0, 10, 70), (0, 11, 78), (0, 12, 89), (3, 0, 4), (3, 1, 5), (3, 2, 6), (3, 4, 7), (3, 5, 8), (3, 6, 9), (3, 16, 10), (3, 17, 11), (3, 18, 12), (13, 0, 14), (13, 1, 15), (13, 2, 16), (13, 4, 17), (13, 5, 18), (13, 6, 19), (13, 16, 20), (13, 17, 21), (13, 18, 22), (23, 1, 24), (23, 2, 25), (23, 3, 26), (23, 4, 27), (23, 5, 28), (23, 6, 29), (32, 1, 33), (32, 2, 34), (32, 4, 35), (32, 6, 36), (32, 7, 37), (32, 8, 38), (32, 9, 39), (32, 11, 40), (32, 13, 41), (32, 14, 42), (32, 15, 43), (44, 0, 45), (44, 3, 46), (44, 4, 47), (44, 5, 48), (44, 6, 49), (44, 7, 50), (44, 8, 51), (44, 9, 32), (44, 10, 2), (51, 1, 52), (51, 2, 53), (51, 3, 54), (51, 4, 55), (51, 5, 56), (51, 6, 57), (60, 1, 61), (60, 2, 62), (60, 3, 63), (60, 4, 64), (60, 5, 65), (65, 0, 66), (65, 1, 67), (65, 3, 68), (65, 4, 69), (70, 3, 71), (70, 4, 72), (70, 5, 73), (70, 6, 74), (70, 9, 75), (70, 10, 76), (70, 11, 77), (70, 12, 2), (78, 0, 79), (78, 1, 80), (78, 2, 81), (78, 3, 82), (78, 4, 83), (78, 5, 84), (84, 0, 85), (84, 1, 86), (84, 3, 87), (84, 4, 88), (89, 2, 90), (91, 5, 92), (91, 6, 93), (91, 7, 94), (91, 8, 95), (91, 9, 96), (91, 10, 97), (91, 11, 98), (91, 12, 99), (91, 13, 100), (91, 14, 101), (91, 15, 102), (91, 16, 103), (91, 17, 104), (91, 18, 105), (91, 19, 106), (91, 24, 107), (91, 25, 108), (91, 26, 109), (91, 27, 110), (91, 28, 111), (91, 29, 112), (91, 30, 113), (91, 31, 114), (91, 32, 115), (91, 33, 116), (91, 34, 117), (91, 35, 118), (91, 36, 119), (91, 42, 120), (91, 43, 121), (91, 44, 122), (91, 45, 123), (91, 47, 124), (91, 48, 125), (91, 49, 126), (91, 50, 127), (91, 53, 128), (91, 54, 129), (91, 55, 130), (91, 56, 131), (91, 59, 132), (91, 60, 133), (91, 61, 134), (91, 62, 135), (91, 63, 136), (91, 64, 137), (91, 65, 138), (91, 66, 139), (91, 67, 140), (91, 68, 141), (91, 69, 142), (91, 70, 143), (91, 71, 144), (91, 72, 145), (91, 73, 146), (91, 74, 147), (91, 75, 148), (91, 77, 149), (91, 78, 150), (91, 79, 151), (91, 80, 152), (91, 81, 153), (91, 82, 154), (91, 83, 155), (91, 84, 156), (91, 89, 157), (91, 90, 158), (91, 91, 159), (91, 92, 160), (91, 94, 161), (91, 95, 162), (91, 96, 163), (91, 97, 164), (91, 99, 165), (91, 100, 166), (91, 101, 167), (91, 102, 168), (91, 103, 169), (91, 104, 170), (91, 105, 171), (91, 106, 172), (91, 111, 173)]
def ownL (k : Nat) : List (Nat × Nat × Nat) := match k with
  | 0 => [(0, 1, 32), (1, 2, 32), (3, 3, 33), (4, 4, 32)]
  | 2 => [(1, 1, 18), (2, 2, 18), (3, 3, 18), (4, 4, 18), (5, 5, 18), (6, 6, 18)]
  | 4 => [(3, 3, 13), (4, 1, 77), (5, 2, 78)]
  | 7 => [(0, 1, 15), (1, 2, 15), (2, 3, 15), (4, 4, 16), (5, 5, 16), (6, 6, 16), (16, 7, 17), (17, 8, 17), (18, 9, 17)]
  | _ => []
def typL (k : Nat) : List (Nat × Nat × Nat) := match k with
  | 2 => [(5, 7, 19), (5, 8, 19)]
  | 4 => [(13, 0, 5)]
  | 7 => [(4, 8, 13)]
  | 11 => [(1, 4, 7), (1, 5, 7)]
  | _ => []
def tarL (k : Nat) : List (Nat × Nat) := match k with
  | 22 => [(7, 5)]
  | 24 => [(10, 4)]
  | 31 => [(16, 4)]
  | _ => []
def nestQ : List (String × Nat × MethodName × String) := [("ChildLetters", 19, ⟨"ChildLetters$Rules", "<init>", "()V"⟩, "ChildLetters"), ("ChildLetters", 29, ⟨"ChildLetters$Finds", "<init>", "()V"⟩, "ChildLetters"), ("ChildLetters", 36, ⟨"ChildLetters$Folk", "<init>", "()V"⟩, "ChildLetters"), ("ChildLetters$Post", 36, ⟨"ChildLetters$Finds", "<init>", "()V"⟩, "ChildLetters"), ("ChildLetters", 52, ⟨"ChildLetters$Turn", "<init>", "()V"⟩, "ChildLetters"), ("ChildLetters$Turn", 30, ⟨"ChildLetters$Allot", "<init>", "()V"⟩, "ChildLetters"), ("ChildLetters", 68, ⟨"ChildLetters$Wishes", "<init>", "()V"⟩, "ChildLetters"), ("ChildLetters$Wishes", 30, ⟨"ChildLetters$Allot", "<init>", "()V"⟩, "ChildLetters"), ("ChildLetters", 75, ⟨"ChildLetters$Trial", "<init>", "()V"⟩, "ChildLetters"), ("ChildLetters$Folk", 52, ⟨"ChildLetters", "within", "(III)Z"⟩, "ChildLetters"), ("ChildLetters$Rules", 80, ⟨"ChildLetters", "within", "(III)Z"⟩, "ChildLetters"), ("ChildLetters$Rules", 130, ⟨"ChildLetters", "isWordSign", "(I)Z"⟩, "ChildLetters"), ("ChildLetters$Finds", 91, ⟨"ChildLetters", "isDigit", "(I)Z"⟩, "ChildLetters"), ("ChildLetters$Finds", 95, ⟨"ChildLetters", "isSmallLetter", "(I)Z"⟩, "ChildLetters"), ("ChildLetters$Finds", 98, ⟨"ChildLetters", "isWordSign", "(I)Z"⟩, "ChildLetters"), ("ChildLetters$Post", 60, ⟨"ChildLetters", "within", "(III)Z"⟩, "ChildLetters"), ("ChildLetters$Letter", 88, ⟨"ChildLetters", "within", "(III)Z"⟩, "ChildLetters"), ("ChildLetters$Coins", 56, ⟨"ChildLetters", "within", "(III)Z"⟩, "ChildLetters"), ("ChildLetters$Trial", 22, ⟨"ChildLetters", "within", "(III)Z"⟩, "ChildLetters")]
theorem sg_same (σ : St) (g : Nat) (X : Grp) : sg σ g X g = X := if_pos rfl
theorem sg_ne (σ : St) {g j : Nat} (X : Grp) (h : j ≠ g) : sg σ g X j = σ j := if_neg h
theorem gI_off (G : Grp) {a b : Nat} (k : Nat) (x : Int32) (h : b ≠ a) : (gI G a k x).1 b = G.1 b := by funext j; simp [gI, h]
theorem gJ_off (G : Grp) {a b : Nat} (k : Nat) (x : Int64) (h : b ≠ a) : (gJ G a k x).2.1 b = G.2.1 b := by funext j; simp [gJ, h]
theorem gR_off (G : Grp) {a b : Nat} (k : Nat) (x : Option Nat) (h : b ≠ a) : (gR G a k x).2.2 b = G.2.2 b := by funext j; simp [gR, h]
def offS (σ σ' : St) (a : Nat) : Prop := ∀ g b, b ≠ a → (σ' g).1 b = (σ g).1 b ∧ (σ' g).2.1 b = (σ g).2.1 b ∧ (σ' g).2.2 b = (σ g).2.2 b
theorem offS_I (σ : St) (g a k : Nat) (x : Int32) : offS σ (sg σ g (gI (σ g) a k x)) a := by
  intro g' b hb
  by_cases e : g' = g
  · subst e
    rw [sg_same]
    exact ⟨gI_off _ k x hb, rfl, rfl⟩
  · rw [sg_ne _ _ e]
    exact ⟨rfl, rfl, rfl⟩
theorem offS_J (σ : St) (g a k : Nat) (x : Int64) : offS σ (sg σ g (gJ (σ g) a k x)) a := by
  intro g' b hb
  by_cases e : g' = g
  · subst e
    rw [sg_same]
    exact ⟨rfl, gJ_off _ k x hb, rfl⟩
  · rw [sg_ne _ _ e]
    exact ⟨rfl, rfl, rfl⟩
theorem offS_R (σ : St) (g a k : Nat) (x : Option Nat) : offS σ (sg σ g (gR (σ g) a k x)) a := by
  intro g' b hb
  by_cases e : g' = g
  · subst e
    rw [sg_same]
    exact ⟨rfl, rfl, gR_off _ k x hb⟩
  · rw [sg_ne _ _ e]
    exact ⟨rfl, rfl, rfl⟩
theorem slI_I (σ : St) (g a k : Nat) (x : Int32) : slI (sg σ g (gI (σ g) a k x)) a = ups (slI σ a) g k x := by
  funext h j
  by_cases e : h = g
  · subst e; simp [slI, sg, ups, gI]
  · simp [slI, sg, ups, e]
theorem slJ_I (σ : St) (g a k : Nat) (x : Int32) : slJ (sg σ g (gI (σ g) a k x)) a = slJ σ a := by
  funext h j
  by_cases e : h = g
  · subst e; simp [slJ, sg, gI]
  · simp [slJ, sg, e]
theorem slR_I (σ : St) (g a k : Nat) (x : Int32) : slR (sg σ g (gI (σ g) a k x)) a = slR σ a := by
  funext h j
  by_cases e : h = g
  · subst e; simp [slR, sg, gI]
  · simp [slR, sg, e]
theorem slI_J (σ : St) (g a k : Nat) (x : Int64) : slI (sg σ g (gJ (σ g) a k x)) a = slI σ a := by
  funext h j
  by_cases e : h = g
  · subst e; simp [slI, sg, gJ]
  · simp [slI, sg, e]
theorem slJ_J (σ : St) (g a k : Nat) (x : Int64) : slJ (sg σ g (gJ (σ g) a k x)) a = ups (slJ σ a) g k x := by
  funext h j
  by_cases e : h = g
  · subst e; simp [slJ, sg, ups, gJ]
  · simp [slJ, sg, ups, e]
theorem slR_J (σ : St) (g a k : Nat) (x : Int64) : slR (sg σ g (gJ (σ g) a k x)) a = slR σ a := by
  funext h j
  by_cases e : h = g
  · subst e; simp [slR, sg, gJ]
  · simp [slR, sg, e]
theorem slI_R (σ : St) (g a k : Nat) (x : Option Nat) : slI (sg σ g (gR (σ g) a k x)) a = slI σ a := by
  funext h j
  by_cases e : h = g
  · subst e; simp [slI, sg, gR]
  · simp [slI, sg, e]
theorem slJ_R (σ : St) (g a k : Nat) (x : Option Nat) : slJ (sg σ g (gR (σ g) a k x)) a = slJ σ a := by
  funext h j
  by_cases e : h = g
  · subst e; simp [slJ, sg, gR]
  · simp [slJ, sg, e]
theorem slR_R (σ : St) (g a k : Nat) (x : Option Nat) : slR (sg σ g (gR (σ g) a k x)) a = ups (slR σ a) g k x := by
  funext h j
  by_cases e : h = g
  · subst e; simp [slR, sg, ups, gR]
  · simp [slR, sg, ups, e]
-- the words
def gtb : List Cond := lw_tbl.filter goodWord
theorem gtb_mk {w : Cond} (h : w ∈ lw_tbl) (g : goodWord w = true) : w ∈ gtb := List.mem_filter.mpr ⟨h, g⟩
theorem gtb_t {w : Cond} (i : Nat) (h : tables_1[i]? = some w) (g : goodWord w = true) : w ∈ gtb := gtb_mk (List.mem_append_right _ (List.mem_of_getElem? h)) g
theorem gtb_p {w : Cond} (i : Nat) (h : (k2_sels lw_privs)[i]? = some w) (g : goodWord w = true) : w ∈ gtb := gtb_mk (List.mem_append_left _ (List.mem_of_getElem? h)) g
theorem goodIn_gtb {w0 : Cond} {big : List Cond} (hb : ∀ w ∈ gtb, w ∈ big) (h0 : w0 ∈ gtb) : GoodIn big (w0 :: gtb) := by
  intro w hw
  rcases List.mem_cons.mp hw with h | h
  · subst h; exact ⟨hb _ h0, good_of_word (List.mem_filter.mp h0).2⟩
  · exact ⟨hb _ h, good_of_word (List.mem_filter.mp h).2⟩
-- what the tables and the start say, moved with the machine
def tysL (y : Nat → ClassId) : List (ClassId × FieldType) := [(y 0, .int), (y 1, .long), (y 2, .char), (y 3, .byte), (y 4, .boolean), (y 5, .object "ChildLetters$Letter"), (y 6, .object "ChildLetters$Pair")]
def lnF (j : Nat) : Int32 := ([1, 1, 1, 1, 0, 0, 0, 0] : List Int32).getD j 0
def mnF (j : Nat) : Int32 := ([60, 127, 20, 8, 400, 100, 100, 1000000] : List Int32).getD j 0
def ZZ (HB : Heap) (U : State) : Prop := (∃ t : Nat, va_Z "ChildLetters" "LEAST_NUMBER" "[I" (.ref t) (fun q => HB.size ≤ q) U HB ∧ va_T .int t 8 (fun j => .int (lnF j)) (fun q => HB.size ≤ q) U HB) ∧ (∃ t : Nat, va_Z "ChildLetters" "MOST_NUMBER" "[I" (.ref t) (fun q => HB.size ≤ q) U HB ∧ va_T .int t 8 (fun j => .int (mnF j)) (fun q => HB.size ≤ q) U HB)
def KK (HB : Heap) (D : va_G) (y : Nat → ClassId) (U : State) : Prop := va_K D vwCl (tysL y) U ∧ (∀ q ∈ nestQ, va_Nw (.methodLinkNest q.1 q.2.1 q.2.2.1 q.2.2.2) U) ∧ ZZ HB U
theorem ZZ.moved {HB : Heap} {u U : State} (hvm : u.vm.Alike U.vm) (h : ZZ HB u) : ZZ HB U := by
  obtain ⟨⟨t1, a1, b1⟩, t2, a2, b2⟩ := h
  exact ⟨⟨t1, a1.moved hvm, b1.moved hvm⟩, t2, a2.moved hvm, b2.moved hvm⟩
theorem KK.warm {HB : Heap} {D : va_G} {y : Nat → ClassId} {s U : State} (hW : s.WarmedH U.vm) (h : KK HB D y s) : KK HB D y U := ⟨h.1.moved hW.alike, fun q hq => va_Nw.warmM hW (h.2.1 q hq), h.2.2.moved hW.alike⟩
theorem KK.call {HB : Heap} {D : va_G} {y : Nat → ClassId} {U : State} {g : JFrame} {mk : MethodId} {a : Array Value} (h : KK HB D y U) : KK HB D y (U.calling g mk a) := ⟨va_K.moved (u := U) (U := U.calling g mk a) (Vm.Alike.refl U.vm) h.1, fun q hq => va_Nw.same (u := U) (U := U.calling g mk a) rfl rfl (h.2.1 q hq), ZZ.moved (u := U) (U := U.calling g mk a) (Vm.Alike.refl U.vm) h.2.2⟩
-- the picture
def HV (HB : Heap) (D : va_G) (y : Nat → ClassId) (n : Nat) (κ : Nat → Nat) (σ : St) (H : Heap) : Prop := H.size = HB.size + n ∧ (∀ q : Nat, q < HB.size → H[q]? = HB[q]?) ∧ (∀ a : Nat, a < n → va_at D vwCl (HB.size + a, ent HB.size y σ (κ a) a) H) ∧ (∀ g a k : Nat, n ≤ a → (σ g).1 a k = 0 ∧ (σ g).2.1 a k = 0 ∧ (σ g).2.2 a k = none) ∧ (∀ a : Nat, a < N0 → κ a = K0 a)
def TF (n : Nat) (κ : Nat → Nat) (σ : St) : Prop := (N0 ≤ n → ∀ q ∈ FINL, (σ 0).2.2 q.1 q.2.1 = some q.2.2) ∧ (∀ a : Nat, a < n → (∀ q ∈ ownL (κ a), (σ 0).2.2 a q.1 = some (a + q.2.1) ∧ a + q.2.1 < n ∧ κ (a + q.2.1) = q.2.2) ∧ (∀ q ∈ typL (κ a), ∀ t : Nat, (σ q.1).2.2 a q.2.1 = some t → t < n ∧ κ t = q.2.2) ∧ (∀ q ∈ tarL (κ a), ∀ j t : Nat, (σ q.1).2.2 a j = some t → t < n ∧ κ t = q.2))
def IV (HB : Heap) (D : va_G) (y : Nat → ClassId) (m n : Nat) (κ : Nat → Nat) (σ : St) (locs : List Loc) (H : Heap) : Prop := HV HB D y n κ σ H ∧ (m ≤ n ∧ TF m κ σ) ∧ ∀ l ∈ locs, HB.size ≤ l.base
theorem IV.nil {HB : Heap} {D : va_G} {y : Nat → ClassId} {m n : Nat} {κ : Nat → Nat} {σ : St} {locs : List Loc} {H : Heap} (h : IV HB D y m n κ σ locs H) : IV HB D y m n κ σ [] H := ⟨h.1, h.2.1, fun _ q => by cases q⟩
theorem IV.re {HB : Heap} {D : va_G} {y : Nat → ClassId} {m n : Nat} {κ : Nat → Nat} {σ : St} {locs l2 : List Loc} {H : Heap} (h : IV HB D y m n κ σ locs H) (hl : ∀ l ∈ l2, HB.size ≤ l.base) : IV HB D y m n κ σ l2 H := ⟨h.1, h.2.1, hl⟩
theorem w1 {D : va_G} {cl : List vw_C} {q : Nat × va_E} {H : Heap} (h : va_at D cl q H) : va_P D cl [q] H := by
  intro k x hk
  have hz : k < 1 := (List.getElem?_eq_some_iff.mp hk).1
  rw [show k = 0 by omega] at hk
  cases hk
  exact h
theorem HV.put {HB : Heap} {D : va_G} {y : Nat → ClassId} {n : Nat} {κ : Nat → Nat} {σ σ' : St} {H H1 : Heap} {a : Nat} (h : HV HB D y n κ σ H) (ha : a < n) (z : H1.size = H.size) (oq : ∀ q : Nat, q ≠ HB.size + a → H1[q]? = H[q]?) (hσ : offS σ σ' a) (hat : va_at D vwCl (HB.size + a, ent HB.size y σ' (κ a) a) H1) : HV HB D y n κ σ' H1 := by
  obtain ⟨h1, h2, h3, h4, h5⟩ := h
  refine ⟨z.trans h1, fun q hq => (oq q (by omega)).trans (h2 q hq), fun b hb => ?_, fun g b k hb => ?_, h5⟩
  · by_cases e : b = a
    · subst e; exact hat
    · have e2 : ent HB.size y σ' (κ b) b = ent HB.size y σ (κ b) b := by
        unfold ent
        rw [show slI σ' b = slI σ b from funext fun g => (hσ g b e).1, show slJ σ' b = slJ σ b from funext fun g => (hσ g b e).2.1, show slR σ' b = slR σ b from funext fun g => (hσ g b e).2.2]
      rw [e2]
      exact (h3 b hb).kept (oq _ (by show HB.size + b ≠ HB.size + a; omega))
  · have e : b ≠ a := by omega
    rw [(hσ g b e).1, (hσ g b e).2.1, (hσ g b e).2.2]
    exact h4 g b k hb
theorem TF.to {n : Nat} {κ : Nat → Nat} {σ σ' : St} (h : TF n κ σ) (e : ∀ g, (σ' g).2.2 = (σ g).2.2) : TF n κ σ' := by
  unfold TF at h ⊢
  simp only [e]
  exact h
theorem sgI_R (σ : St) (g a k : Nat) (x : Int32) : ∀ h, ((sg σ g (gI (σ g) a k x)) h).2.2 = (σ h).2.2 := by
  intro h
  by_cases e : h = g
  · subst e; rw [sg_same]; rfl
  · rw [sg_ne _ _ e]
theorem sgJ_R (σ : St) (g a k : Nat) (x : Int64) : ∀ h, ((sg σ g (gJ (σ g) a k x)) h).2.2 = (σ h).2.2 := by
  intro h
  by_cases e : h = g
  · subst e; rw [sg_same]; rfl
  · rw [sg_ne _ _ e]
theorem IV.putI {HB : Heap} {D : va_G} {y : Nat → ClassId} {m n : Nat} {κ : Nat → Nat} {σ : St} {locs : List Loc} {H H1 : Heap} {a g k z0 : Nat} {x : Int32} (h : IV HB D y m n κ σ locs H) (ha : a < n) (z : H1.size = H.size) (oq : ∀ q : Nat, q ≠ HB.size + a → H1[q]? = H[q]?) (hat : va_at D vwCl (HB.size + a, entS (κ a) HB.size y (ups (slI σ a) g k x) (slJ σ a) (slR σ a)) H1) : IV HB D y m n κ (sg σ g (gI (σ g) a k x)) (locs ++ [⟨HB.size + a, z0⟩]) H1 := by
  refine ⟨h.1.put ha z oq (offS_I σ g a k x) ?_, ⟨h.2.1.1, h.2.1.2.to (sgI_R σ g a k x)⟩, ?_⟩
  · unfold ent
    rw [slI_I, slJ_I, slR_I]
    exact hat
  · intro l hl
    rcases List.mem_append.mp hl with q | q
    · exact h.2.2 l q
    · rw [List.mem_singleton.mp q]; exact Nat.le_add_right _ _
theorem IV.putJ {HB : Heap} {D : va_G} {y : Nat → ClassId} {m n : Nat} {κ : Nat → Nat} {σ : St} {locs : List Loc} {H H1 : Heap} {a g k z0 : Nat} {x : Int64} (h : IV HB D y m n κ σ locs H) (ha : a < n) (z : H1.size = H.size) (oq : ∀ q : Nat, q ≠ HB.size + a → H1[q]? = H[q]?) (hat : va_at D vwCl (HB.size + a, entS (κ a) HB.size y (slI σ a) (ups (slJ σ a) g k x) (slR σ a)) H1) : IV HB D y m n κ (sg σ g (gJ (σ g) a k x)) (locs ++ [⟨HB.size + a, z0⟩]) H1 := by
  refine ⟨h.1.put ha z oq (offS_J σ g a k x) ?_, ⟨h.2.1.1, h.2.1.2.to (sgJ_R σ g a k x)⟩, ?_⟩
  · unfold ent
    rw [slI_J, slJ_J, slR_J]
    exact hat
  · intro l hl
    rcases List.mem_append.mp hl with q | q
    · exact h.2.2 l q
    · rw [List.mem_singleton.mp q]; exact Nat.le_add_right _ _
theorem IV.putR {HB : Heap} {D : va_G} {y : Nat → ClassId} {m n : Nat} {κ : Nat → Nat} {σ : St} {locs : List Loc} {H H1 : Heap} {a g k z0 : Nat} {x : Option Nat} (h : IV HB D y m n κ σ locs H) (ha : a < n) (z : H1.size = H.size) (oq : ∀ q : Nat, q ≠ HB.size + a → H1[q]? = H[q]?) (hat : va_at D vwCl (HB.size + a, entS (κ a) HB.size y (slI σ a) (slJ σ a) (ups (slR σ a) g k x)) H1) (hT : TF m κ σ → TF m κ (sg σ g (gR (σ g) a k x))) : IV HB D y m n κ (sg σ g (gR (σ g) a k x)) (locs ++ [⟨HB.size + a, z0⟩]) H1 := by
  refine ⟨h.1.put ha z oq (offS_R σ g a k x) ?_, ⟨h.2.1.1, hT h.2.1.2⟩, ?_⟩
  · unfold ent
    rw [slI_R, slJ_R, slR_R]
    exact hat
  · intro l hl
    rcases List.mem_append.mp hl with q | q
    · exact h.2.2 l q
    · rw [List.mem_singleton.mp q]; exact Nat.le_add_right _ _
section RULES
variable {p : Program} {l : Launch} {e : Env} {R : Room} {s : State} {m : MethodId} {args : Array Value} {below : List Frame} {meth : Method} {c : Code} {H : Heap} {locs : List Loc} {cells slots : Nat} {Q : State → Prop}
variable {cc : ByteArray} {pc : Nat} {ls : Array Slot} {rest : List Value} {HB : Heap} {D : va_G} {y : Nat → ClassId} {n0 n : Nat} {κ : Nat → Nat} {σ : St} {a kd : Nat}
theorem IV.at (hI : IV HB D y n0 n κ σ locs H) (ha : a < n) (hk : κ a = kd) : va_at D vwCl (HB.size + a, entS kd HB.size y (slI σ a) (slJ σ a) (slR σ a)) H := by
  have h := hI.1.2.2.1 a ha
  rw [hk] at h
  exact h
theorem r_get (hx : p.tables.exec = Jvm.exec) (hb : c.code = cc) (hts : ∀ w ∈ gtb, w.before args s = true) {own C : String} (hown : s.vm.findClass own = some m.cls) (hKK : KK HB D y s) (hI : IV HB D y n0 n κ σ locs H) {T : u_T} {N ci k index : Nat} {F : (Nat → Nat → Int32) → (Nat → Nat → Int64) → (Nat → Nat → Option Nat) → List Value} {v : Value} (hE : ∀ i j r, entS kd HB.size y i j r = .inr (ci, F i j r)) (hc : vwCl[ci]? = some (C, T, N)) (hin : ∀ w ∈ u_ws C T N, w ∈ gtb) (hkN : k < N) (hlink : Cond.fieldLink own index C (T k).2.1 (T k).2.2.1 ∈ gtb) (hdc : (T k).1 = C) (ha : a < n) (hk : κ a = kd) (hv : (F (slI σ a) (slJ σ a) (slR σ a))[k]? = some v) (hdg : decode cc pc = .ok (.getfield index, 3))
    (kk : W p l e R s m args below meth c H locs cells slots Q (F0 m (pc + 3) ls (v :: rest))) : W p l e R s m args below meth c H locs cells slots Q (F0 m pc ls (.ref (HB.size + a) :: rest)) := by
  have hat := hI.at ha hk
  rw [hE] at hat
  exact va_get hx hb hts hin hown hKK.1 (w1 hat) 0 rfl hc k hkN (hts _ hlink) (fun x hx => by rw [hdc] at hx; exact hx) hv hdg kk
theorem r_put0 (hx : p.tables.exec = Jvm.exec) (hb : c.code = cc) (hts : ∀ w ∈ gtb, w.before args s = true) {own C : String} (hown : s.vm.findClass own = some m.cls) (hKK : KK HB D y s) (hI : IV HB D y n0 n κ σ locs H) {T : u_T} {ty0 : Nat → FieldType} {N ci k index : Nat} {fs : List Value} {ty : FieldType} {v : Value} (hat : va_at D vwCl (HB.size + a, .inr (ci, fs)) H) (hc : vwCl[ci]? = some (C, T, N)) (hin : ∀ w ∈ u_ws C T N, w ∈ gtb) (hty : ∀ k, k < N → parseFieldDescriptor (T k).2.2.1 = some (ty0 k)) (hnm : ∀ a, a < N → ∀ b, b < N → a ≠ b → (T a).2.1 ≠ (T b).2.1) (hkN : k < N) (hlink : Cond.fieldLink own index C (T k).2.1 (T k).2.2.1 ∈ gtb) (hdc : (T k).1 = C) (hfin : (T k).2.2.2 = false ∨ ((T k).2.2.2 = true ∧ meth.name = "<init>" ∧ C = own)) (hd : parseFieldDescriptor (T k).2.2.1 = some ty) (hn : narrow ty v = v) (hfit : fits ty v = true) (hl : k < fs.length) (hdg : decode cc pc = .ok (.putfield index, 3))
    (kk : ∀ (H1 : Heap) (z0 : Nat), H1.size = H.size → (∀ q : Nat, q ≠ HB.size + a → H1[q]? = H[q]?) → va_at D vwCl (HB.size + a, .inr (ci, fs.set k v)) H1 → W p l e R s m args below meth c H1 (locs ++ [⟨HB.size + a, z0⟩]) cells slots Q (F0 m (pc + 3) ls rest)) : W p l e R s m args below meth c H locs cells slots Q (F0 m pc ls (v :: .ref (HB.size + a) :: rest)) := by
  have hap := va_apart (own := own) hts hin ty0 hty hnm hKK.1 hc
  obtain ⟨r, h1, cell, q1, q2, q3, q4⟩ := hat
  have hr : r = (C, T, N) := Option.some.inj (h1.symm.trans hc)
  subst hr
  obtain ⟨hS, hfc, kC, hkC, hkind⟩ := hKK.1.1 ci _ hc
  obtain ⟨cf, kf, fi, f, hi, hsl⟩ := hS k hkN
  have hlay := hts _ (hin _ (u_in_lay hkN))
  have hst := (u_facts hfc hkC (u_lays hts hin hkN) hi).1
  have fin1 : ∀ (H' : Heap), H'[HB.size + a]? = some (cell.setSlot f.slot v) → H'.size = H.size → (∀ q : Nat, q ≠ HB.size + a → H'[q]? = H[q]?) → W p l e R s m args below meth c H' (locs ++ [⟨HB.size + a, f.slot⟩]) cells slots Q (F0 m (pc + 3) ls rest) := by
    intro H' e1 e2 e3
    refine kk H' _ e2 e3 ⟨_, hc, t_OB.to (V := updV (vp_V fs) k v) ⟨_, e1, q2, q3, ?_⟩ (fun j _ => vp_updV_set hl v j)⟩
    rw [hsl]
    exact t_set q4 hap hkN v
  rcases hfin with hfin | ⟨hfin, hin2, hCo⟩
  · unfold u_lay at hlay
    rw [if_neg (by rw [hfin]; decide)] at hlay
    have h6 := u_store hfc hkC hkind hlay hi hd hn hfit
    exact W.putK hx hb (f := f) ⟨hown, hts _ hlink, ⟨_, _, _, by rw [hdc] at hi; exact hi⟩, hst⟩ (by rw [q2]; exact h6) q1 q3 (by rw [hsl]; exact k2_hasslot (q4 k hkN)) rfl rfl hdg fin1
  · unfold u_lay at hlay
    rw [if_pos hfin] at hlay
    have hcf : m.cls = cf := by
      obtain ⟨_, _, c', _, _, _, -, -, hf', -, -, -, hown2, -⟩ := Cond.laysFinal_spec hlay
      have e1 : c' = cf := by have := hi.symm.trans hf'; simp at this; exact this.1.symm
      rw [hdc, hCo] at hown2
      rw [← e1]; exact Option.some.inj (hown.symm.trans hown2)
    have h6 := u_fits hfc hkC hkind (Or.inr hlay) hi hd hn hfit
    exact W.putFinK hx hb hown (hts _ hlink) (by rw [hdc] at hi; exact hi) hst hcf hin2 (by rw [q2]; exact h6) q1 q3 (by rw [hsl]; exact k2_hasslot (q4 k hkN)) rfl rfl hdg fin1
theorem r_putI (hx : p.tables.exec = Jvm.exec) (hb : c.code = cc) (hts : ∀ w ∈ gtb, w.before args s = true) {own C : String} (hown : s.vm.findClass own = some m.cls) (hKK : KK HB D y s) (hI : IV HB D y n0 n κ σ locs H) {T : u_T} {ty0 : Nat → FieldType} {N ci k index g : Nat} {F : (Nat → Nat → Int32) → (Nat → Nat → Int64) → (Nat → Nat → Option Nat) → List Value} {ty : FieldType} {x : Int32} (hE : ∀ i j r, entS kd HB.size y i j r = .inr (ci, F i j r)) (hset : ∀ i j r x, F (ups i g k x) j r = (F i j r).set k (.int x)) (hlen : ∀ i j r, (F i j r).length = N) (hc : vwCl[ci]? = some (C, T, N)) (hin : ∀ w ∈ u_ws C T N, w ∈ gtb) (hty : ∀ k, k < N → parseFieldDescriptor (T k).2.2.1 = some (ty0 k)) (hnm : ∀ a, a < N → ∀ b, b < N → a ≠ b → (T a).2.1 ≠ (T b).2.1) (hkN : k < N) (hlink : Cond.fieldLink own index C (T k).2.1 (T k).2.2.1 ∈ gtb) (hdc : (T k).1 = C) (hfin : (T k).2.2.2 = false ∨ ((T k).2.2.2 = true ∧ meth.name = "<init>" ∧ C = own)) (hd : parseFieldDescriptor (T k).2.2.1 = some ty) (hn : narrow ty (.int x) = .int x) (hfit : fits ty (.int x) = true) {G : Grp} (hG : σ g = G) (ha : a < n) (hk : κ a = kd) (hdg : decode cc pc = .ok (.putfield index, 3))
    (kk : ∀ (σ' : St) (H' : Heap) (locs' : List Loc), IV HB D y n0 n κ σ' locs' H' → σ' g = gI G a k x → (∀ j, j ≠ g → σ' j = σ j) → W p l e R s m args below meth c H' locs' cells slots Q (F0 m (pc + 3) ls rest)) : W p l e R s m args below meth c H locs cells slots Q (F0 m pc ls (.int x :: .ref (HB.size + a) :: rest)) := by
  subst hG
  have hat := hI.at ha hk
  rw [hE] at hat
  refine r_put0 hx hb hts hown hKK hI hat hc hin hty hnm hkN hlink hdc hfin hd hn hfit (by rw [hlen]; exact hkN) hdg fun H1 z0 z oq hat1 => ?_
  refine kk (sg σ g (gI (σ g) a k x)) H1 _ (hI.putI ha z oq ?_) (sg_same _ _ _) (fun j hj => sg_ne _ _ hj)
  rw [hk, hE, hset]
  exact hat1
theorem r_putJ (hx : p.tables.exec = Jvm.exec) (hb : c.code = cc) (hts : ∀ w ∈ gtb, w.before args s = true) {own C : String} (hown : s.vm.findClass own = some m.cls) (hKK : KK HB D y s) (hI : IV HB D y n0 n κ σ locs H) {T : u_T} {ty0 : Nat → FieldType} {N ci k index g : Nat} {F : (Nat → Nat → Int32) → (Nat → Nat → Int64) → (Nat → Nat → Option Nat) → List Value} {ty : FieldType} {x : Int64} (hE : ∀ i j r, entS kd HB.size y i j r = .inr (ci, F i j r)) (hset : ∀ i j r x, F i (ups j g k x) r = (F i j r).set k (.long x)) (hlen : ∀ i j r, (F i j r).length = N) (hc : vwCl[ci]? = some (C, T, N)) (hin : ∀ w ∈ u_ws C T N, w ∈ gtb) (hty : ∀ k, k < N → parseFieldDescriptor (T k).2.2.1 = some (ty0 k)) (hnm : ∀ a, a < N → ∀ b, b < N → a ≠ b → (T a).2.1 ≠ (T b).2.1) (hkN : k < N) (hlink : Cond.fieldLink own index C (T k).2.1 (T k).2.2.1 ∈ gtb) (hdc : (T k).1 = C) (hfin : (T k).2.2.2 = false ∨ ((T k).2.2.2 = true ∧ meth.name = "<init>" ∧ C = own)) (hd : parseFieldDescriptor (T k).2.2.1 = some ty) (hn : narrow ty (.long x) = .long x) (hfit : fits ty (.long x) = true) {G : Grp} (hG : σ g = G) (ha : a < n) (hk : κ a = kd) (hdg : decode cc pc = .ok (.putfield index, 3))
    (kk : ∀ (σ' : St) (H' : Heap) (locs' : List Loc), IV HB D y n0 n κ σ' locs' H' → σ' g = gJ G a k x → (∀ j, j ≠ g → σ' j = σ j) → W p l e R s m args below meth c H' locs' cells slots Q (F0 m (pc + 3) ls rest)) : W p l e R s m args below meth c H locs cells slots Q (F0 m pc ls (.long x :: .ref (HB.size + a) :: rest)) := by
  subst hG
  have hat := hI.at ha hk
  rw [hE] at hat
  refine r_put0 hx hb hts hown hKK hI hat hc hin hty hnm hkN hlink hdc hfin hd hn hfit (by rw [hlen]; exact hkN) hdg fun H1 z0 z oq hat1 => ?_
  refine kk (sg σ g (gJ (σ g) a k x)) H1 _ (hI.putJ ha z oq ?_) (sg_same _ _ _) (fun j hj => sg_ne _ _ hj)
  rw [hk, hE, hset]
  exact hat1
theorem rfv_cat (b : Nat) (o : Option Nat) : (rfv b o).category = 1 := by cases o <;> rfl
theorem r_putR (hx : p.tables.exec = Jvm.exec) (hb : c.code = cc) (hts : ∀ w ∈ gtb, w.before args s = true) {own C : String} (hown : s.vm.findClass own = some m.cls) (hKK : KK HB D y s) (hI : IV HB D y n0 n κ σ locs H) {T : u_T} {ty0 : Nat → FieldType} {N ci k index g : Nat} {F : (Nat → Nat → Int32) → (Nat → Nat → Int64) → (Nat → Nat → Option Nat) → List Value} {ty : FieldType} {x : Option Nat} (hE : ∀ i j r, entS kd HB.size y i j r = .inr (ci, F i j r)) (hset : ∀ i j r x, F i j (ups r g k x) = (F i j r).set k (rfv HB.size x)) (hlen : ∀ i j r, (F i j r).length = N) (hc : vwCl[ci]? = some (C, T, N)) (hin : ∀ w ∈ u_ws C T N, w ∈ gtb) (hty : ∀ k, k < N → parseFieldDescriptor (T k).2.2.1 = some (ty0 k)) (hnm : ∀ a, a < N → ∀ b, b < N → a ≠ b → (T a).2.1 ≠ (T b).2.1) (hkN : k < N) (hlink : Cond.fieldLink own index C (T k).2.1 (T k).2.2.1 ∈ gtb) (hdc : (T k).1 = C) (hfin : (T k).2.2.2 = false ∨ ((T k).2.2.2 = true ∧ meth.name = "<init>" ∧ C = own)) (hd : parseFieldDescriptor (T k).2.2.1 = some ty) (hn : ∀ v, narrow ty (rfv HB.size v) = rfv HB.size v) (hfit : ∀ v, fits ty (rfv HB.size v) = true) (hT : TF n0 κ σ → TF n0 κ (sg σ g (gR (σ g) a k x))) {G : Grp} (hG : σ g = G) (ha : a < n) (hk : κ a = kd) (hdg : decode cc pc = .ok (.putfield index, 3))
    (kk : ∀ (σ' : St) (H' : Heap) (locs' : List Loc), IV HB D y n0 n κ σ' locs' H' → σ' g = gR G a k x → (∀ j, j ≠ g → σ' j = σ j) → W p l e R s m args below meth c H' locs' cells slots Q (F0 m (pc + 3) ls rest)) : W p l e R s m args below meth c H locs cells slots Q (F0 m pc ls (rfv HB.size x :: .ref (HB.size + a) :: rest)) := by
  subst hG
  have hat := hI.at ha hk
  rw [hE] at hat
  refine r_put0 hx hb hts hown hKK hI hat hc hin hty hnm hkN hlink hdc hfin hd (hn x) (hfit x) (by rw [hlen]; exact hkN) hdg fun H1 z0 z oq hat1 => ?_
  refine kk (sg σ g (gR (σ g) a k x)) H1 _ (hI.putR ha z oq ?_ hT) (sg_same _ _ _) (fun j hj => sg_ne _ _ hj)
  rw [hk, hE, hset]
  exact hat1
end RULES

