/-! SHAPES (made by wip/gen/shapes.py): an object at place a, and its own arrays behind it -/
def ShAsk (g : aG) (a : Nat) : Prop := g.2.1 a = (10, 1) ∧ g.2.2.1 a 0 = some (a + 1) ∧ g.2.1 (a + 1) = (0, 128)
theorem sk_Ask {g : aG} {a : Nat} (s : ShAsk g a) : g.2.1 a = (10 + 0, 1) := s.1
theorem sr_Ask_0 {g : aG} {a : Nat} (s : ShAsk g a) : g.2.2.1 a 0 = some (a + 1) := s.2.1
theorem sa_Ask_0 {g : aG} {a : Nat} (s : ShAsk g a) : g.2.1 (a + 1) = (0, 128) := s.2.2
def ShLen (g : aG) (a : Nat) : Prop := g.2.1 a = (12, 11) ∧ g.2.2.1 a 0 = some (a + 1) ∧ g.2.1 (a + 1) = (0, 400) ∧ g.2.2.1 a 1 = some (a + 2) ∧ g.2.1 (a + 2) = (0, 400) ∧ g.2.2.1 a 3 = some (a + 3) ∧ g.2.1 (a + 3) = (0, 8) ∧ g.2.2.1 a 4 = some (a + 4) ∧ g.2.1 (a + 4) = (0, 8) ∧ g.2.2.1 a 5 = some (a + 5) ∧ g.2.1 (a + 5) = (0, 16) ∧ g.2.2.1 a 6 = some (a + 6) ∧ g.2.1 (a + 6) = (0, 16) ∧ g.2.2.1 a 8 = some (a + 7) ∧ g.2.1 (a + 7) = (1, 4) ∧ g.2.2.1 a 9 = some (a + 8) ∧ g.2.1 (a + 8) = (0, 64)
theorem sk_Len {g : aG} {a : Nat} (s : ShLen g a) : g.2.1 a = (10 + 2, 11) := s.1
theorem sr_Len_0 {g : aG} {a : Nat} (s : ShLen g a) : g.2.2.1 a 0 = some (a + 1) := s.2.1
theorem sa_Len_0 {g : aG} {a : Nat} (s : ShLen g a) : g.2.1 (a + 1) = (0, 400) := s.2.2.1
theorem sr_Len_1 {g : aG} {a : Nat} (s : ShLen g a) : g.2.2.1 a 1 = some (a + 2) := s.2.2.2.1
theorem sa_Len_1 {g : aG} {a : Nat} (s : ShLen g a) : g.2.1 (a + 2) = (0, 400) := s.2.2.2.2.1
theorem sr_Len_3 {g : aG} {a : Nat} (s : ShLen g a) : g.2.2.1 a 3 = some (a + 3) := s.2.2.2.2.2.1
theorem sa_Len_3 {g : aG} {a : Nat} (s : ShLen g a) : g.2.1 (a + 3) = (0, 8) := s.2.2.2.2.2.2.1
theorem sr_Len_4 {g : aG} {a : Nat} (s : ShLen g a) : g.2.2.1 a 4 = some (a + 4) := s.2.2.2.2.2.2.2.1
theorem sa_Len_4 {g : aG} {a : Nat} (s : ShLen g a) : g.2.1 (a + 4) = (0, 8) := s.2.2.2.2.2.2.2.2.1
theorem sr_Len_5 {g : aG} {a : Nat} (s : ShLen g a) : g.2.2.1 a 5 = some (a + 5) := s.2.2.2.2.2.2.2.2.2.1
theorem sa_Len_5 {g : aG} {a : Nat} (s : ShLen g a) : g.2.1 (a + 5) = (0, 16) := s.2.2.2.2.2.2.2.2.2.2.1
theorem sr_Len_6 {g : aG} {a : Nat} (s : ShLen g a) : g.2.2.1 a 6 = some (a + 6) := s.2.2.2.2.2.2.2.2.2.2.2.1
theorem sa_Len_6 {g : aG} {a : Nat} (s : ShLen g a) : g.2.1 (a + 6) = (0, 16) := s.2.2.2.2.2.2.2.2.2.2.2.2.1
theorem sr_Len_8 {g : aG} {a : Nat} (s : ShLen g a) : g.2.2.1 a 8 = some (a + 7) := s.2.2.2.2.2.2.2.2.2.2.2.2.2.1
theorem sa_Len_8 {g : aG} {a : Nat} (s : ShLen g a) : g.2.1 (a + 7) = (1, 4) := s.2.2.2.2.2.2.2.2.2.2.2.2.2.2.1
theorem sr_Len_9 {g : aG} {a : Nat} (s : ShLen g a) : g.2.2.1 a 9 = some (a + 8) := s.2.2.2.2.2.2.2.2.2.2.2.2.2.2.2.1
theorem sa_Len_9 {g : aG} {a : Nat} (s : ShLen g a) : g.2.1 (a + 8) = (0, 64) := s.2.2.2.2.2.2.2.2.2.2.2.2.2.2.2.2
def ShBox (g : aG) (a : Nat) : Prop := g.2.1 a = (11, 9) ∧ g.2.2.1 a 1 = some (a + 1) ∧ g.2.1 (a + 1) = (0, 4) ∧ g.2.2.1 a 2 = some (a + 2) ∧ g.2.1 (a + 2) = (0, 4) ∧ g.2.2.1 a 3 = some (a + 3) ∧ g.2.1 (a + 3) = (0, 4) ∧ g.2.2.1 a 4 = some (a + 4) ∧ g.2.1 (a + 4) = (0, 4) ∧ g.2.2.1 a 5 = some (a + 5) ∧ g.2.1 (a + 5) = (0, 4) ∧ g.2.2.1 a 6 = some (a + 6) ∧ g.2.1 (a + 6) = (0, 4) ∧ g.2.2.1 a 7 = some (a + 7) ∧ g.2.1 (a + 7) = (0, 4)
theorem sk_Box {g : aG} {a : Nat} (s : ShBox g a) : g.2.1 a = (10 + 1, 9) := s.1
theorem sr_Box_1 {g : aG} {a : Nat} (s : ShBox g a) : g.2.2.1 a 1 = some (a + 1) := s.2.1
theorem sa_Box_1 {g : aG} {a : Nat} (s : ShBox g a) : g.2.1 (a + 1) = (0, 4) := s.2.2.1
theorem sr_Box_2 {g : aG} {a : Nat} (s : ShBox g a) : g.2.2.1 a 2 = some (a + 2) := s.2.2.2.1
theorem sa_Box_2 {g : aG} {a : Nat} (s : ShBox g a) : g.2.1 (a + 2) = (0, 4) := s.2.2.2.2.1
theorem sr_Box_3 {g : aG} {a : Nat} (s : ShBox g a) : g.2.2.1 a 3 = some (a + 3) := s.2.2.2.2.2.1
theorem sa_Box_3 {g : aG} {a : Nat} (s : ShBox g a) : g.2.1 (a + 3) = (0, 4) := s.2.2.2.2.2.2.1
theorem sr_Box_4 {g : aG} {a : Nat} (s : ShBox g a) : g.2.2.1 a 4 = some (a + 4) := s.2.2.2.2.2.2.2.1
theorem sa_Box_4 {g : aG} {a : Nat} (s : ShBox g a) : g.2.1 (a + 4) = (0, 4) := s.2.2.2.2.2.2.2.2.1
theorem sr_Box_5 {g : aG} {a : Nat} (s : ShBox g a) : g.2.2.1 a 5 = some (a + 5) := s.2.2.2.2.2.2.2.2.2.1
theorem sa_Box_5 {g : aG} {a : Nat} (s : ShBox g a) : g.2.1 (a + 5) = (0, 4) := s.2.2.2.2.2.2.2.2.2.2.1
theorem sr_Box_6 {g : aG} {a : Nat} (s : ShBox g a) : g.2.2.1 a 6 = some (a + 6) := s.2.2.2.2.2.2.2.2.2.2.2.1
theorem sa_Box_6 {g : aG} {a : Nat} (s : ShBox g a) : g.2.1 (a + 6) = (0, 4) := s.2.2.2.2.2.2.2.2.2.2.2.2.1
theorem sr_Box_7 {g : aG} {a : Nat} (s : ShBox g a) : g.2.2.1 a 7 = some (a + 7) := s.2.2.2.2.2.2.2.2.2.2.2.2.2.1
theorem sa_Box_7 {g : aG} {a : Nat} (s : ShBox g a) : g.2.1 (a + 7) = (0, 4) := s.2.2.2.2.2.2.2.2.2.2.2.2.2.2
def ShLik (g : aG) (a : Nat) : Prop := g.2.1 a = (13, 2) ∧ g.2.2.1 a 0 = some (a + 1) ∧ g.2.1 (a + 1) = (0, 8192) ∧ g.2.2.1 a 1 = some (a + 2) ∧ g.2.1 (a + 2) = (0, 32768)
theorem sk_Lik {g : aG} {a : Nat} (s : ShLik g a) : g.2.1 a = (10 + 3, 2) := s.1
theorem sr_Lik_0 {g : aG} {a : Nat} (s : ShLik g a) : g.2.2.1 a 0 = some (a + 1) := s.2.1
theorem sa_Lik_0 {g : aG} {a : Nat} (s : ShLik g a) : g.2.1 (a + 1) = (0, 8192) := s.2.2.1
theorem sr_Lik_1 {g : aG} {a : Nat} (s : ShLik g a) : g.2.2.1 a 1 = some (a + 2) := s.2.2.2.1
theorem sa_Lik_1 {g : aG} {a : Nat} (s : ShLik g a) : g.2.1 (a + 2) = (0, 32768) := s.2.2.2.2
def ShPla (g : aG) (a : Nat) : Prop := g.2.1 a = (14, 8) ∧ g.2.2.1 a 0 = some (a + 1) ∧ g.2.1 (a + 1) = (0, 15) ∧ g.2.2.1 a 1 = some (a + 2) ∧ g.2.1 (a + 2) = (0, 15) ∧ g.2.2.1 a 2 = some (a + 3) ∧ g.2.1 (a + 3) = (0, 5) ∧ g.2.2.1 a 3 = some (a + 4) ∧ g.2.1 (a + 4) = (1, 9) ∧ g.2.2.1 a 4 = some (a + 5) ∧ g.2.1 (a + 5) = (1, 9)
theorem sk_Pla {g : aG} {a : Nat} (s : ShPla g a) : g.2.1 a = (10 + 4, 8) := s.1
theorem sr_Pla_0 {g : aG} {a : Nat} (s : ShPla g a) : g.2.2.1 a 0 = some (a + 1) := s.2.1
theorem sa_Pla_0 {g : aG} {a : Nat} (s : ShPla g a) : g.2.1 (a + 1) = (0, 15) := s.2.2.1
theorem sr_Pla_1 {g : aG} {a : Nat} (s : ShPla g a) : g.2.2.1 a 1 = some (a + 2) := s.2.2.2.1
theorem sa_Pla_1 {g : aG} {a : Nat} (s : ShPla g a) : g.2.1 (a + 2) = (0, 15) := s.2.2.2.2.1
theorem sr_Pla_2 {g : aG} {a : Nat} (s : ShPla g a) : g.2.2.1 a 2 = some (a + 3) := s.2.2.2.2.2.1
theorem sa_Pla_2 {g : aG} {a : Nat} (s : ShPla g a) : g.2.1 (a + 3) = (0, 5) := s.2.2.2.2.2.2.1
theorem sr_Pla_3 {g : aG} {a : Nat} (s : ShPla g a) : g.2.2.1 a 3 = some (a + 4) := s.2.2.2.2.2.2.2.1
theorem sa_Pla_3 {g : aG} {a : Nat} (s : ShPla g a) : g.2.1 (a + 4) = (1, 9) := s.2.2.2.2.2.2.2.2.1
theorem sr_Pla_4 {g : aG} {a : Nat} (s : ShPla g a) : g.2.2.1 a 4 = some (a + 5) := s.2.2.2.2.2.2.2.2.2.1
theorem sa_Pla_4 {g : aG} {a : Nat} (s : ShPla g a) : g.2.1 (a + 5) = (1, 9) := s.2.2.2.2.2.2.2.2.2.2
def ShWay (g : aG) (a : Nat) : Prop := g.2.1 a = (18, 9) ∧ g.2.2.1 a 1 = some (a + 1) ∧ g.2.1 (a + 1) = (1, 6912) ∧ g.2.2.1 a 2 = some (a + 2) ∧ g.2.1 (a + 2) = (0, 6912) ∧ g.2.2.1 a 3 = some (a + 3) ∧ g.2.1 (a + 3) = (0, 6912) ∧ g.2.2.1 a 4 = some (a + 4) ∧ g.2.1 (a + 4) = (1, 6912) ∧ g.2.2.1 a 5 = some (a + 5) ∧ g.2.1 (a + 5) = (1, 216) ∧ g.2.2.1 a 6 = some (a + 6) ∧ g.2.1 (a + 6) = (0, 3) ∧ g.2.2.1 a 0 = some 29
theorem sk_Way {g : aG} {a : Nat} (s : ShWay g a) : g.2.1 a = (10 + 8, 9) := s.1
theorem sp_Way_0 {g : aG} {a : Nat} (s : ShWay g a) : g.2.2.1 a 0 = some 29 := s.2.2.2.2.2.2.2.2.2.2.2.2.2
theorem sr_Way_1 {g : aG} {a : Nat} (s : ShWay g a) : g.2.2.1 a 1 = some (a + 1) := s.2.1
theorem sa_Way_1 {g : aG} {a : Nat} (s : ShWay g a) : g.2.1 (a + 1) = (1, 6912) := s.2.2.1
theorem sr_Way_2 {g : aG} {a : Nat} (s : ShWay g a) : g.2.2.1 a 2 = some (a + 2) := s.2.2.2.1
theorem sa_Way_2 {g : aG} {a : Nat} (s : ShWay g a) : g.2.1 (a + 2) = (0, 6912) := s.2.2.2.2.1
theorem sr_Way_3 {g : aG} {a : Nat} (s : ShWay g a) : g.2.2.1 a 3 = some (a + 3) := s.2.2.2.2.2.1
theorem sa_Way_3 {g : aG} {a : Nat} (s : ShWay g a) : g.2.1 (a + 3) = (0, 6912) := s.2.2.2.2.2.2.1
theorem sr_Way_4 {g : aG} {a : Nat} (s : ShWay g a) : g.2.2.1 a 4 = some (a + 4) := s.2.2.2.2.2.2.2.1
theorem sa_Way_4 {g : aG} {a : Nat} (s : ShWay g a) : g.2.1 (a + 4) = (1, 6912) := s.2.2.2.2.2.2.2.2.1
theorem sr_Way_5 {g : aG} {a : Nat} (s : ShWay g a) : g.2.2.1 a 5 = some (a + 5) := s.2.2.2.2.2.2.2.2.2.1
theorem sa_Way_5 {g : aG} {a : Nat} (s : ShWay g a) : g.2.1 (a + 5) = (1, 216) := s.2.2.2.2.2.2.2.2.2.2.1
theorem sr_Way_6 {g : aG} {a : Nat} (s : ShWay g a) : g.2.2.1 a 6 = some (a + 6) := s.2.2.2.2.2.2.2.2.2.2.2.1
theorem sa_Way_6 {g : aG} {a : Nat} (s : ShWay g a) : g.2.1 (a + 6) = (0, 3) := s.2.2.2.2.2.2.2.2.2.2.2.2.1
def ShRow (g : aG) (a : Nat) : Prop := g.2.1 a = (16, 8) ∧ g.2.2.1 a 0 = some (a + 1) ∧ g.2.1 (a + 1) = (0, 4) ∧ g.2.2.1 a 1 = some (a + 2) ∧ g.2.1 (a + 2) = (0, 4) ∧ g.2.2.1 a 2 = some (a + 3) ∧ g.2.1 (a + 3) = (0, 4) ∧ g.2.2.1 a 7 = some (a + 4) ∧ g.2.1 (a + 4) = (1, 2)
theorem sk_Row {g : aG} {a : Nat} (s : ShRow g a) : g.2.1 a = (10 + 6, 8) := s.1
theorem sr_Row_0 {g : aG} {a : Nat} (s : ShRow g a) : g.2.2.1 a 0 = some (a + 1) := s.2.1
theorem sa_Row_0 {g : aG} {a : Nat} (s : ShRow g a) : g.2.1 (a + 1) = (0, 4) := s.2.2.1
theorem sr_Row_1 {g : aG} {a : Nat} (s : ShRow g a) : g.2.2.1 a 1 = some (a + 2) := s.2.2.2.1
theorem sa_Row_1 {g : aG} {a : Nat} (s : ShRow g a) : g.2.1 (a + 2) = (0, 4) := s.2.2.2.2.1
theorem sr_Row_2 {g : aG} {a : Nat} (s : ShRow g a) : g.2.2.1 a 2 = some (a + 3) := s.2.2.2.2.2.1
theorem sa_Row_2 {g : aG} {a : Nat} (s : ShRow g a) : g.2.1 (a + 3) = (0, 4) := s.2.2.2.2.2.2.1
theorem sr_Row_7 {g : aG} {a : Nat} (s : ShRow g a) : g.2.2.1 a 7 = some (a + 4) := s.2.2.2.2.2.2.2.1
theorem sa_Row_7 {g : aG} {a : Nat} (s : ShRow g a) : g.2.1 (a + 4) = (1, 2) := s.2.2.2.2.2.2.2.2
def ShTab (g : aG) (a : Nat) : Prop := g.2.1 a = (17, 11) ∧ g.2.2.1 a 2 = some (a + 1) ∧ g.2.1 (a + 1) = (6, 40) ∧ g.2.2.1 a 3 = some (a + 2) ∧ g.2.1 (a + 2) = (0, 4) ∧ g.2.2.1 a 4 = some (a + 3) ∧ g.2.1 (a + 3) = (0, 4) ∧ g.2.2.1 a 5 = some (a + 4) ∧ g.2.1 (a + 4) = (0, 4)
theorem sk_Tab {g : aG} {a : Nat} (s : ShTab g a) : g.2.1 a = (10 + 7, 11) := s.1
theorem sr_Tab_2 {g : aG} {a : Nat} (s : ShTab g a) : g.2.2.1 a 2 = some (a + 1) := s.2.1
theorem sa_Tab_2 {g : aG} {a : Nat} (s : ShTab g a) : g.2.1 (a + 1) = (6, 40) := s.2.2.1
theorem sr_Tab_3 {g : aG} {a : Nat} (s : ShTab g a) : g.2.2.1 a 3 = some (a + 2) := s.2.2.2.1
theorem sa_Tab_3 {g : aG} {a : Nat} (s : ShTab g a) : g.2.1 (a + 2) = (0, 4) := s.2.2.2.2.1
theorem sr_Tab_4 {g : aG} {a : Nat} (s : ShTab g a) : g.2.2.1 a 4 = some (a + 3) := s.2.2.2.2.2.1
theorem sa_Tab_4 {g : aG} {a : Nat} (s : ShTab g a) : g.2.1 (a + 3) = (0, 4) := s.2.2.2.2.2.2.1
theorem sr_Tab_5 {g : aG} {a : Nat} (s : ShTab g a) : g.2.2.1 a 5 = some (a + 4) := s.2.2.2.2.2.2.2.1
theorem sa_Tab_5 {g : aG} {a : Nat} (s : ShTab g a) : g.2.1 (a + 4) = (0, 4) := s.2.2.2.2.2.2.2.2
